section WR
variable {p : Program} {l : Launch} {e : Env} {R : Room} {s : State} {m : MethodId} {args : Array Value} {below : List Frame} {meth : Method} {c : Code} {H : Heap} {locs : List Loc} {cells slots : Nat} {Q : State → Prop}
variable {pc : Nat} {ls : Array Slot} {rest : List Value} {G : GG} {ws : va_W} {A : Nat → Prop} {y0 : MethodName} {b0 : ByteArray} {mL0 : Nat} {rt0 : Option FieldType} {a : Nat} {H0 : Heap}
end WR
/-- what a kind tells of its shelf -/
def KO1 (x : Int32) (y : Int32) (k : Nat) (B : Nat) : Prop := x = nI k ∧ ∃ j, j < B ∧ y = nI j
theorem KO1.mk {x x2 y y2 : Int32} {k B kk : Nat} (hB : kk ≤ B) (hk : kk < 2 ^ 31) (ex : x2 = x) (ey : y2 = y) (c : x2 = nI k) (h : Hs y2 kk) : KO1 x y k B := by
  obtain ⟨j, hj, e⟩ := Hs_nat hk h
  exact ⟨ex.symm.trans c, j, by omega, ey.symm.trans e⟩
/-- the first n alike -/
def AG (n : Nat) (f g : Nat → Int32) : Prop := ∀ i, i < n → g i = f i
theorem AG.zero {f g : Nat → Int32} : AG 0 f g := fun i h => absurd h (Nat.not_lt_zero i)
theorem AG.next {n : Nat} {f g : Nat → Int32} {x : Int32} (h : AG n f g) (hx : x = f n) : AG (n + 1) f (upd g n x) := by
  intro i hi
  unfold upd
  by_cases c : i = n
  · rw [if_pos c, hx, c]
  · rw [if_neg c]; exact h i (by omega)
theorem AG.SC {f g : Nat → Int32} (h : AG 1662 f g) : SCX g (f 0) (f 1) (f 2) (f 3) (f 4) (f 5) (f 8) (f 9) (f 10) (f 11) := SCX.rf.ag fun i h1 _ _ => h i (by omega)
theorem AG.NI {f g : Nat → Int32} (h : AG 1662 f g) (hN : NI f) : NI g := by
  intro i
  by_cases c : i < 1662
  · rw [h i c]; exact hN i
  · rw [bnd_end (by omega)]
    exact ⟨ti_lo _, ti_hi _⟩
theorem AG.VI {f g : Nat → Int32} (h : AG 1662 f g) (hV : VI f) : VI g := by
  intro v hv
  exact VOK.ext (fun j hj => (h _ (by omega)).symm) (hV v hv)
section WR
variable {p : Program} {l : Launch} {e : Env} {R : Room} {s : State} {m : MethodId} {args : Array Value} {below : List Frame} {meth : Method} {c : Code} {H : Heap} {locs : List Loc} {cells slots : Nat} {Q : State → Prop}
variable {pc : Nat} {ls : Array Slot} {rest : List Value} {G : GG} {ws : va_W} {A : Nat → Prop} {y0 : MethodName} {b0 : ByteArray} {mL0 : Nat} {rt0 : Option FieldType} {a : Nat} {H0 : Heap}
theorem dX12_kindOn_0 : decode cX12_kindOn 0 = .ok (.aload_n 0, 1) := by decide +kernel
theorem dX12_kindOn_1 : decode cX12_kindOn 1 = .ok (.getfield 75, 3) := by decide +kernel
theorem dX12_kindOn_4 : decode cX12_kindOn 4 = .ok (.iload_n 1, 1) := by decide +kernel
theorem dX12_kindOn_5 : decode cX12_kindOn 5 = .ok (.iaload, 1) := by decide +kernel
theorem dX12_kindOn_6 : decode cX12_kindOn 6 = .ok (.istore_n 2, 1) := by decide +kernel
theorem dX12_kindOn_7 : decode cX12_kindOn 7 = .ok (.aload_n 0, 1) := by decide +kernel
theorem dX12_kindOn_8 : decode cX12_kindOn 8 = .ok (.getfield 72, 3) := by decide +kernel
theorem dX12_kindOn_11 : decode cX12_kindOn 11 = .ok (.iload_n 1, 1) := by decide +kernel
theorem dX12_kindOn_12 : decode cX12_kindOn 12 = .ok (.iaload, 1) := by decide +kernel
theorem dX12_kindOn_13 : decode cX12_kindOn 13 = .ok (.tableswitch 145 1 3 #[27, 98, 128], 27) := by decide +kernel
theorem dX12_kindOn_40 : decode cX12_kindOn 40 = .ok (.aload_n 0, 1) := by decide +kernel
theorem dX12_kindOn_41 : decode cX12_kindOn 41 = .ok (.iload_n 2, 1) := by decide +kernel
theorem dX12_kindOn_42 : decode cX12_kindOn 42 = .ok (.iconst 5, 1) := by decide +kernel
theorem dX12_kindOn_43 : decode cX12_kindOn 43 = .ok (.invokevirtual 120, 3) := by decide +kernel
theorem dX12_kindOn_46 : decode cX12_kindOn 46 = .ok (.ifCond .eq 27, 3) := by decide +kernel
theorem dX12_kindOn_49 : decode cX12_kindOn 49 = .ok (.aload_n 0, 1) := by decide +kernel
theorem dX12_kindOn_50 : decode cX12_kindOn 50 = .ok (.iload_n 2, 1) := by decide +kernel
theorem dX12_kindOn_51 : decode cX12_kindOn 51 = .ok (.iconst 1, 1) := by decide +kernel
theorem dX12_kindOn_52 : decode cX12_kindOn 52 = .ok (.invokevirtual 88, 3) := by decide +kernel
theorem dX12_kindOn_55 : decode cX12_kindOn 55 = .ok (.iconst 1, 1) := by decide +kernel
theorem dX12_kindOn_56 : decode cX12_kindOn 56 = .ok (.aload_n 0, 1) := by decide +kernel
theorem dX12_kindOn_57 : decode cX12_kindOn 57 = .ok (.iload_n 2, 1) := by decide +kernel
theorem dX12_kindOn_58 : decode cX12_kindOn 58 = .ok (.iconst 0, 1) := by decide +kernel
theorem dX12_kindOn_59 : decode cX12_kindOn 59 = .ok (.invokevirtual 88, 3) := by decide +kernel
theorem dX12_kindOn_62 : decode cX12_kindOn 62 = .ok (.ishl, 1) := by decide +kernel
theorem dX12_kindOn_63 : decode cX12_kindOn 63 = .ok (.iconst (-1), 1) := by decide +kernel
theorem dX12_kindOn_64 : decode cX12_kindOn 64 = .ok (.ixor, 1) := by decide +kernel
theorem dX12_kindOn_65 : decode cX12_kindOn 65 = .ok (.iand, 1) := by decide +kernel
theorem dX12_kindOn_66 : decode cX12_kindOn 66 = .ok (.ifCond .eq 7, 3) := by decide +kernel
theorem dX12_kindOn_73 : decode cX12_kindOn 73 = .ok (.iconst 0, 1) := by decide +kernel
theorem dX12_kindOn_74 : decode cX12_kindOn 74 = .ok (.istore_n 3, 1) := by decide +kernel
theorem dX12_kindOn_75 : decode cX12_kindOn 75 = .ok (.aload_n 0, 1) := by decide +kernel
theorem dX12_kindOn_76 : decode cX12_kindOn 76 = .ok (.iload_n 2, 1) := by decide +kernel
theorem dX12_kindOn_77 : decode cX12_kindOn 77 = .ok (.iconst 5, 1) := by decide +kernel
theorem dX12_kindOn_78 : decode cX12_kindOn 78 = .ok (.invokevirtual 120, 3) := by decide +kernel
theorem dX12_kindOn_81 : decode cX12_kindOn 81 = .ok (.ifCond .ne 7, 3) := by decide +kernel
theorem dX12_kindOn_88 : decode cX12_kindOn 88 = .ok (.iload_n 3, 1) := by decide +kernel
theorem dX12_kindOn_89 : decode cX12_kindOn 89 = .ok (.ifCond .ne 7, 3) := by decide +kernel
theorem dX12_kindOn_92 : decode cX12_kindOn 92 = .ok (.iconst 2, 1) := by decide +kernel
theorem dX12_kindOn_93 : decode cX12_kindOn 93 = .ok (.goto 17, 3) := by decide +kernel
theorem dX12_kindOn_110 : decode cX12_kindOn 110 = .ok (.ireturn, 1) := by decide +kernel
theorem dX12_kindOn_69 : decode cX12_kindOn 69 = .ok (.iconst 1, 1) := by decide +kernel
theorem dX12_kindOn_70 : decode cX12_kindOn 70 = .ok (.goto 4, 3) := by decide +kernel
theorem dX12_kindOn_96 : decode cX12_kindOn 96 = .ok (.aload_n 0, 1) := by decide +kernel
theorem dX12_kindOn_97 : decode cX12_kindOn 97 = .ok (.iload_n 2, 1) := by decide +kernel
theorem dX12_kindOn_98 : decode cX12_kindOn 98 = .ok (.iconst 3, 1) := by decide +kernel
theorem dX12_kindOn_99 : decode cX12_kindOn 99 = .ok (.invokevirtual 88, 3) := by decide +kernel
theorem dX12_kindOn_102 : decode cX12_kindOn 102 = .ok (.ifCond .le 7, 3) := by decide +kernel
theorem dX12_kindOn_109 : decode cX12_kindOn 109 = .ok (.iconst 1, 1) := by decide +kernel
theorem dX12_kindOn_105 : decode cX12_kindOn 105 = .ok (.iconst 3, 1) := by decide +kernel
theorem dX12_kindOn_106 : decode cX12_kindOn 106 = .ok (.goto 4, 3) := by decide +kernel
theorem dX12_kindOn_84 : decode cX12_kindOn 84 = .ok (.iconst (-1), 1) := by decide +kernel
theorem dX12_kindOn_85 : decode cX12_kindOn 85 = .ok (.goto 25, 3) := by decide +kernel
theorem dX12_kindOn_111 : decode cX12_kindOn 111 = .ok (.aload_n 0, 1) := by decide +kernel
theorem dX12_kindOn_112 : decode cX12_kindOn 112 = .ok (.iload_n 2, 1) := by decide +kernel
theorem dX12_kindOn_113 : decode cX12_kindOn 113 = .ok (.bipush 8, 2) := by decide +kernel
theorem dX12_kindOn_115 : decode cX12_kindOn 115 = .ok (.invokevirtual 120, 3) := by decide +kernel
theorem dX12_kindOn_118 : decode cX12_kindOn 118 = .ok (.ifCond .ne 7, 3) := by decide +kernel
theorem dX12_kindOn_125 : decode cX12_kindOn 125 = .ok (.aload_n 0, 1) := by decide +kernel
theorem dX12_kindOn_126 : decode cX12_kindOn 126 = .ok (.iload_n 2, 1) := by decide +kernel
theorem dX12_kindOn_127 : decode cX12_kindOn 127 = .ok (.bipush 6, 2) := by decide +kernel
theorem dX12_kindOn_129 : decode cX12_kindOn 129 = .ok (.invokevirtual 114, 3) := by decide +kernel
theorem dX12_kindOn_132 : decode cX12_kindOn 132 = .ok (.ifCond .ge 7, 3) := by decide +kernel
theorem dX12_kindOn_139 : decode cX12_kindOn 139 = .ok (.iconst 4, 1) := by decide +kernel
theorem dX12_kindOn_140 : decode cX12_kindOn 140 = .ok (.ireturn, 1) := by decide +kernel
theorem dX12_kindOn_135 : decode cX12_kindOn 135 = .ok (.iconst 5, 1) := by decide +kernel
theorem dX12_kindOn_136 : decode cX12_kindOn 136 = .ok (.goto 4, 3) := by decide +kernel
theorem dX12_kindOn_121 : decode cX12_kindOn 121 = .ok (.iconst (-1), 1) := by decide +kernel
theorem dX12_kindOn_122 : decode cX12_kindOn 122 = .ok (.goto 18, 3) := by decide +kernel
theorem dX12_kindOn_141 : decode cX12_kindOn 141 = .ok (.aload_n 0, 1) := by decide +kernel
theorem dX12_kindOn_142 : decode cX12_kindOn 142 = .ok (.iload_n 2, 1) := by decide +kernel
theorem dX12_kindOn_143 : decode cX12_kindOn 143 = .ok (.bipush 9, 2) := by decide +kernel
theorem dX12_kindOn_145 : decode cX12_kindOn 145 = .ok (.invokevirtual 120, 3) := by decide +kernel
theorem dX12_kindOn_148 : decode cX12_kindOn 148 = .ok (.ifCond .eq 8, 3) := by decide +kernel
theorem dX12_kindOn_151 : decode cX12_kindOn 151 = .ok (.bipush 6, 2) := by decide +kernel
theorem dX12_kindOn_153 : decode cX12_kindOn 153 = .ok (.goto 4, 3) := by decide +kernel
theorem dX12_kindOn_157 : decode cX12_kindOn 157 = .ok (.ireturn, 1) := by decide +kernel
theorem dX12_kindOn_156 : decode cX12_kindOn 156 = .ok (.iconst (-1), 1) := by decide +kernel
theorem sw_1_3 {x : Int32} : ¬ x = 1 → ¬ x = 2 → ¬ x = 3 →  (x.toInt < 1 ∨ 3 < x.toInt) := by
  intros
  simp only [← Int32.toInt_inj] at *
  have hk : ∀ k : Int, x.toInt = k → x.toInt = k := fun _ h => h
  have k1 : (1 : Int32).toInt = 1 := by decide
  have k2 : (2 : Int32).toInt = 2 := by decide
  have k3 : (3 : Int32).toInt = 3 := by decide
  omega
theorem dX12_kindOn_158 : decode cX12_kindOn 158 = .ok (.iconst (-1), 1) := by decide +kernel
theorem dX12_kindOn_159 : decode cX12_kindOn 159 = .ok (.ireturn, 1) := by decide +kernel
theorem dX12_above_0 : decode cX12_above 0 = .ok (.iload_n 0, 1) := by decide +kernel
theorem dX12_above_1 : decode cX12_above 1 = .ok (.iconst 3, 1) := by decide +kernel
theorem dX12_above_2 : decode cX12_above 2 = .ok (.if_icmp .ne 7, 3) := by decide +kernel
theorem dX12_above_9 : decode cX12_above 9 = .ok (.iload_n 0, 1) := by decide +kernel
theorem dX12_above_10 : decode cX12_above 10 = .ok (.iconst 5, 1) := by decide +kernel
theorem dX12_above_11 : decode cX12_above 11 = .ok (.if_icmp .ne 7, 3) := by decide +kernel
theorem dX12_above_18 : decode cX12_above 18 = .ok (.iload_n 0, 1) := by decide +kernel
theorem dX12_above_19 : decode cX12_above 19 = .ok (.ifCond .ne 7, 3) := by decide +kernel
theorem dX12_above_22 : decode cX12_above 22 = .ok (.iconst (-1), 1) := by decide +kernel
theorem dX12_above_23 : decode cX12_above 23 = .ok (.goto 4, 3) := by decide +kernel
theorem dX12_above_27 : decode cX12_above 27 = .ok (.ireturn, 1) := by decide +kernel
theorem dX12_above_26 : decode cX12_above 26 = .ok (.iconst 0, 1) := by decide +kernel
theorem dX12_above_5 : decode cX12_above 5 = .ok (.iconst 1, 1) := by decide +kernel
theorem dX12_above_6 : decode cX12_above 6 = .ok (.goto 21, 3) := by decide +kernel
theorem dX12_above_14 : decode cX12_above 14 = .ok (.iconst 4, 1) := by decide +kernel
theorem dX12_above_15 : decode cX12_above 15 = .ok (.goto 12, 3) := by decide +kernel
theorem dX12_hasOwn_0 : decode cX12_hasOwn 0 = .ok (.iload_n 0, 1) := by decide +kernel
theorem dX12_hasOwn_1 : decode cX12_hasOwn 1 = .ok (.tableswitch 94 0 5 #[39, 41, 52, 63, 79, 79], 39) := by decide +kernel
theorem dX12_hasOwn_40 : decode cX12_hasOwn 40 = .ok (.iconst 1, 1) := by decide +kernel
theorem dX12_hasOwn_41 : decode cX12_hasOwn 41 = .ok (.ireturn, 1) := by decide +kernel
theorem dX12_hasOwn_42 : decode cX12_hasOwn 42 = .ok (.iload_n 1, 1) := by decide +kernel
theorem dX12_hasOwn_43 : decode cX12_hasOwn 43 = .ok (.iconst 1, 1) := by decide +kernel
theorem dX12_hasOwn_44 : decode cX12_hasOwn 44 = .ok (.if_icmp .ne 7, 3) := by decide +kernel
theorem dX12_hasOwn_51 : decode cX12_hasOwn 51 = .ok (.iconst 0, 1) := by decide +kernel
theorem dX12_hasOwn_52 : decode cX12_hasOwn 52 = .ok (.ireturn, 1) := by decide +kernel
theorem dX12_hasOwn_47 : decode cX12_hasOwn 47 = .ok (.iconst 1, 1) := by decide +kernel
theorem dX12_hasOwn_48 : decode cX12_hasOwn 48 = .ok (.goto 4, 3) := by decide +kernel
theorem dX12_hasOwn_53 : decode cX12_hasOwn 53 = .ok (.iload_n 1, 1) := by decide +kernel
theorem dX12_hasOwn_54 : decode cX12_hasOwn 54 = .ok (.iconst 2, 1) := by decide +kernel
theorem dX12_hasOwn_55 : decode cX12_hasOwn 55 = .ok (.if_icmp .ne 7, 3) := by decide +kernel
theorem dX12_hasOwn_62 : decode cX12_hasOwn 62 = .ok (.iconst 0, 1) := by decide +kernel
theorem dX12_hasOwn_63 : decode cX12_hasOwn 63 = .ok (.ireturn, 1) := by decide +kernel
theorem dX12_hasOwn_58 : decode cX12_hasOwn 58 = .ok (.iconst 1, 1) := by decide +kernel
theorem dX12_hasOwn_59 : decode cX12_hasOwn 59 = .ok (.goto 4, 3) := by decide +kernel
theorem dX12_hasOwn_64 : decode cX12_hasOwn 64 = .ok (.iload_n 1, 1) := by decide +kernel
theorem dX12_hasOwn_65 : decode cX12_hasOwn 65 = .ok (.iconst 1, 1) := by decide +kernel
theorem dX12_hasOwn_66 : decode cX12_hasOwn 66 = .ok (.if_icmp .eq 8, 3) := by decide +kernel
theorem dX12_hasOwn_69 : decode cX12_hasOwn 69 = .ok (.iload_n 1, 1) := by decide +kernel
theorem dX12_hasOwn_70 : decode cX12_hasOwn 70 = .ok (.iconst 3, 1) := by decide +kernel
theorem dX12_hasOwn_71 : decode cX12_hasOwn 71 = .ok (.if_icmp .ne 7, 3) := by decide +kernel
theorem dX12_hasOwn_78 : decode cX12_hasOwn 78 = .ok (.iconst 0, 1) := by decide +kernel
theorem dX12_hasOwn_79 : decode cX12_hasOwn 79 = .ok (.ireturn, 1) := by decide +kernel
theorem dX12_hasOwn_74 : decode cX12_hasOwn 74 = .ok (.iconst 1, 1) := by decide +kernel
theorem dX12_hasOwn_75 : decode cX12_hasOwn 75 = .ok (.goto 4, 3) := by decide +kernel
theorem dX12_hasOwn_80 : decode cX12_hasOwn 80 = .ok (.iload_n 1, 1) := by decide +kernel
theorem dX12_hasOwn_81 : decode cX12_hasOwn 81 = .ok (.ifCond .eq 8, 3) := by decide +kernel
theorem dX12_hasOwn_89 : decode cX12_hasOwn 89 = .ok (.iconst 1, 1) := by decide +kernel
theorem dX12_hasOwn_90 : decode cX12_hasOwn 90 = .ok (.goto 4, 3) := by decide +kernel
theorem dX12_hasOwn_94 : decode cX12_hasOwn 94 = .ok (.ireturn, 1) := by decide +kernel
theorem dX12_hasOwn_84 : decode cX12_hasOwn 84 = .ok (.iload_n 1, 1) := by decide +kernel
theorem dX12_hasOwn_85 : decode cX12_hasOwn 85 = .ok (.iconst 2, 1) := by decide +kernel
theorem dX12_hasOwn_86 : decode cX12_hasOwn 86 = .ok (.if_icmp .ne 7, 3) := by decide +kernel
theorem dX12_hasOwn_93 : decode cX12_hasOwn 93 = .ok (.iconst 0, 1) := by decide +kernel
theorem dX12_hasOwn_95 : decode cX12_hasOwn 95 = .ok (.iload_n 1, 1) := by decide +kernel
theorem dX12_hasOwn_96 : decode cX12_hasOwn 96 = .ok (.iconst 3, 1) := by decide +kernel
theorem dX12_hasOwn_97 : decode cX12_hasOwn 97 = .ok (.if_icmp .ne 7, 3) := by decide +kernel
theorem dX12_hasOwn_104 : decode cX12_hasOwn 104 = .ok (.iconst 0, 1) := by decide +kernel
theorem dX12_hasOwn_105 : decode cX12_hasOwn 105 = .ok (.ireturn, 1) := by decide +kernel
theorem dX12_hasOwn_100 : decode cX12_hasOwn 100 = .ok (.iconst 1, 1) := by decide +kernel
theorem dX12_hasOwn_101 : decode cX12_hasOwn 101 = .ok (.goto 4, 3) := by decide +kernel
theorem dX12_taken_0 : decode cX12_taken 0 = .ok (.iload_n 1, 1) := by decide +kernel
theorem dX12_taken_1 : decode cX12_taken 1 = .ok (.invokestatic 336, 3) := by decide +kernel
theorem dX12_taken_4 : decode cX12_taken 4 = .ok (.ifCond .eq 24, 3) := by decide +kernel
theorem dX12_taken_7 : decode cX12_taken 7 = .ok (.iload_n 2, 1) := by decide +kernel
theorem dX12_taken_8 : decode cX12_taken 8 = .ok (.iconst 0, 1) := by decide +kernel
theorem dX12_taken_9 : decode cX12_taken 9 = .ok (.bipush 6, 2) := by decide +kernel
theorem dX12_taken_11 : decode cX12_taken 11 = .ok (.invokestatic 84, 3) := by decide +kernel
theorem dX12_taken_14 : decode cX12_taken 14 = .ok (.ifCond .ne 16, 3) := by decide +kernel
theorem dX12_taken_30 : decode cX12_taken 30 = .ok (.aload_n 0, 1) := by decide +kernel
theorem dX12_taken_31 : decode cX12_taken 31 = .ok (.getfield 72, 3) := by decide +kernel
theorem dX12_taken_34 : decode cX12_taken 34 = .ok (.iload_n 1, 1) := by decide +kernel
theorem dX12_taken_35 : decode cX12_taken 35 = .ok (.iaload, 1) := by decide +kernel
theorem dX12_taken_36 : decode cX12_taken 36 = .ok (.iconst 4, 1) := by decide +kernel
theorem dX12_taken_37 : decode cX12_taken 37 = .ok (.if_icmp .ne 28, 3) := by decide +kernel
theorem dX12_taken_65 : decode cX12_taken 65 = .ok (.aload_n 0, 1) := by decide +kernel
theorem dX12_taken_66 : decode cX12_taken 66 = .ok (.iload_n 1, 1) := by decide +kernel
theorem dX12_taken_67 : decode cX12_taken 67 = .ok (.invokevirtual 345, 3) := by decide +kernel
theorem m_1309 : Cond.code yX12_kindOn cX12_kindOn 4 (some .int) ∈ BW := List.mem_of_getElem? (i := 1309) (by decide +kernel)
theorem m_1306 : Cond.methodLink RX12 345 yX12_kindOn ∈ BW := List.mem_of_getElem? (i := 1306) (by decide +kernel)
theorem m_1307 : Cond.instanceMethod yX12_kindOn ∈ BW := List.mem_of_getElem? (i := 1307) (by decide +kernel)
theorem m_1308 : Cond.selects RX12 yX12_kindOn yX12_kindOn ∈ BW := List.mem_of_getElem? (i := 1308) (by decide +kernel)
theorem si_X12_345 : SV RX12 RX12 345 yX12_kindOn cX12_kindOn 4 (some .int) 1 := ⟨⟨m_1306, m_1307, m_1308, m_5, m_1309⟩, rfl, by decide +kernel, by decide +kernel, by decide +kernel⟩
theorem dX12_taken_70 : decode cX12_taken 70 = .ok (.istore_n 3, 1) := by decide +kernel
theorem dX12_taken_71 : decode cX12_taken 71 = .ok (.iload_n 3, 1) := by decide +kernel
theorem dX12_taken_72 : decode cX12_taken 72 = .ok (.ifCond .ge 6, 3) := by decide +kernel
theorem dX12_taken_75 : decode cX12_taken 75 = .ok (.bipush (-11), 2) := by decide +kernel
theorem dX12_taken_77 : decode cX12_taken 77 = .ok (.ireturn, 1) := by decide +kernel
theorem dX12_taken_78 : decode cX12_taken 78 = .ok (.iload_n 3, 1) := by decide +kernel
theorem dX12_taken_79 : decode cX12_taken 79 = .ok (.ifCond .lt 16, 3) := by decide +kernel
theorem dX12_taken_82 : decode cX12_taken 82 = .ok (.iload_n 3, 1) := by decide +kernel
theorem dX12_taken_83 : decode cX12_taken 83 = .ok (.iload_n 2, 1) := by decide +kernel
theorem dX12_taken_84 : decode cX12_taken 84 = .ok (.if_icmp .eq 11, 3) := by decide +kernel
theorem dX12_taken_95 : decode cX12_taken 95 = .ok (.iload_n 3, 1) := by decide +kernel
theorem dX12_taken_96 : decode cX12_taken 96 = .ok (.iload_n 2, 1) := by decide +kernel
theorem dX12_taken_97 : decode cX12_taken 97 = .ok (.if_icmp .ne 12, 3) := by decide +kernel
theorem dX12_taken_100 : decode cX12_taken 100 = .ok (.aload_n 0, 1) := by decide +kernel
theorem dX12_taken_101 : decode cX12_taken 101 = .ok (.getfield 75, 3) := by decide +kernel
theorem dX12_taken_104 : decode cX12_taken 104 = .ok (.iload_n 1, 1) := by decide +kernel
theorem dX12_taken_105 : decode cX12_taken 105 = .ok (.iaload, 1) := by decide +kernel
theorem dX12_taken_106 : decode cX12_taken 106 = .ok (.goto 5, 3) := by decide +kernel
theorem dX12_taken_111 : decode cX12_taken 111 = .ok (.ireturn, 1) := by decide +kernel
theorem dX12_taken_87 : decode cX12_taken 87 = .ok (.iload_n 3, 1) := by decide +kernel
theorem dX12_taken_88 : decode cX12_taken 88 = .ok (.invokestatic 348, 3) := by decide +kernel
theorem m_1312 : Cond.code yX12_above cX12_above 1 (some .int) ∈ BW := List.mem_of_getElem? (i := 1312) (by decide +kernel)
theorem m_1310 : Cond.methodLink RX12 348 yX12_above ∈ BW := List.mem_of_getElem? (i := 1310) (by decide +kernel)
theorem m_1311 : Cond.static yX12_above ∈ BW := List.mem_of_getElem? (i := 1311) (by decide +kernel)
theorem si_X12_348 : SS RX12 348 yX12_above cX12_above 1 (some .int) 1 := ⟨⟨m_1310, m_1311, m_5, m_1312⟩, ⟨by decide +kernel, by decide +kernel, by decide +kernel⟩⟩
theorem dX12_taken_91 : decode cX12_taken 91 = .ok (.istore_n 3, 1) := by decide +kernel
theorem dX12_taken_92 : decode cX12_taken 92 = .ok (.goto (-14), 3) := by decide +kernel
theorem dX12_taken_109 : decode cX12_taken 109 = .ok (.bipush (-13), 2) := by decide +kernel
theorem dX12_taken_40 : decode cX12_taken 40 = .ok (.iload_n 2, 1) := by decide +kernel
theorem dX12_taken_41 : decode cX12_taken 41 = .ok (.bipush 10, 2) := by decide +kernel
theorem dX12_taken_43 : decode cX12_taken 43 = .ok (.isub, 1) := by decide +kernel
theorem dX12_taken_44 : decode cX12_taken 44 = .ok (.aload_n 0, 1) := by decide +kernel
theorem dX12_taken_45 : decode cX12_taken 45 = .ok (.getfield 75, 3) := by decide +kernel
theorem dX12_taken_48 : decode cX12_taken 48 = .ok (.iload_n 1, 1) := by decide +kernel
theorem dX12_taken_49 : decode cX12_taken 49 = .ok (.iaload, 1) := by decide +kernel
theorem dX12_taken_50 : decode cX12_taken 50 = .ok (.if_icmp .ne 12, 3) := by decide +kernel
theorem dX12_taken_62 : decode cX12_taken 62 = .ok (.bipush (-13), 2) := by decide +kernel
theorem dX12_taken_64 : decode cX12_taken 64 = .ok (.ireturn, 1) := by decide +kernel
theorem dX12_taken_53 : decode cX12_taken 53 = .ok (.aload_n 0, 1) := by decide +kernel
theorem dX12_taken_54 : decode cX12_taken 54 = .ok (.getfield 78, 3) := by decide +kernel
theorem dX12_taken_57 : decode cX12_taken 57 = .ok (.iload_n 1, 1) := by decide +kernel
theorem dX12_taken_58 : decode cX12_taken 58 = .ok (.iaload, 1) := by decide +kernel
theorem dX12_taken_59 : decode cX12_taken 59 = .ok (.goto 5, 3) := by decide +kernel
theorem dX12_taken_17 : decode cX12_taken 17 = .ok (.iload_n 2, 1) := by decide +kernel
theorem dX12_taken_18 : decode cX12_taken 18 = .ok (.bipush 10, 2) := by decide +kernel
theorem dX12_taken_20 : decode cX12_taken 20 = .ok (.bipush 14, 2) := by decide +kernel
theorem dX12_taken_22 : decode cX12_taken 22 = .ok (.invokestatic 84, 3) := by decide +kernel
theorem dX12_taken_25 : decode cX12_taken 25 = .ok (.ifCond .ne 5, 3) := by decide +kernel
theorem dX12_taken_28 : decode cX12_taken 28 = .ok (.iconst (-1), 1) := by decide +kernel
theorem dX12_taken_29 : decode cX12_taken 29 = .ok (.ireturn, 1) := by decide +kernel
theorem dX12_began_0 : decode cX12_began 0 = .ok (.aload_n 0, 1) := by decide +kernel
theorem dX12_began_1 : decode cX12_began 1 = .ok (.getfield 351, 3) := by decide +kernel
theorem m_1346 : Cond.fieldLink RX12 351 "InquiryBenchModel" "traced" "I" ∈ BW := List.mem_of_getElem? (i := 1346) (by decide +kernel)
theorem gf_X12_351 (hC : CX p s m meth c y0 b0 mL0 rt0 args) (hy0 : y0.cls = RX12) (hK : KK G s) (hP : va_P G.1 vwCl ws H) (q0 : Nat) {fs : List Value} {v : Value} (he : ws[q0]? = some (a, .inr (12, fs))) (hv : fs[35]? = some v) (hdg : decode b0 pc = .ok (.getfield 351, 3)) (kk : W p l e R s m args below meth c H locs cells slots Q (F0 m (pc + 3) ls (v :: rest))) : W p l e R s m args below meth c H locs cells slots Q (F0 m pc ls (.ref a :: rest)) := by
  obtain ⟨hx, hb, hr, hml, hB, hown, hlocks, hnm⟩ := hC
  rw [hy0] at hown
  exact va_get (ci := 12) (C := RX12) (T := TX12) (N := 41) hx hb hB in_X12 hown hK.1 hP q0 he rfl 35 (by decide) (hB _ m_1346) (fun _ h => h) hv hdg kk
theorem dX12_began_4 : decode cX12_began 4 = .ok (.bipush 30, 2) := by decide +kernel
theorem dX12_began_6 : decode cX12_began 6 = .ok (.if_icmp .ge 23, 3) := by decide +kernel
theorem dX12_began_29 : decode cX12_began 29 = .ok (.return_, 1) := by decide +kernel
theorem dX12_began_9 : decode cX12_began 9 = .ok (.aload_n 0, 1) := by decide +kernel
theorem dX12_began_10 : decode cX12_began 10 = .ok (.getfield 81, 3) := by decide +kernel
theorem m_207 : Cond.fieldLink RX12 81 "InquiryBenchModel" "trace" "[I" ∈ BW := List.mem_of_getElem? (i := 207) (by decide +kernel)
theorem gf_X12_81 (hC : CX p s m meth c y0 b0 mL0 rt0 args) (hy0 : y0.cls = RX12) (hK : KK G s) (hP : va_P G.1 vwCl ws H) (q0 : Nat) {fs : List Value} {v : Value} (he : ws[q0]? = some (a, .inr (12, fs))) (hv : fs[34]? = some v) (hdg : decode b0 pc = .ok (.getfield 81, 3)) (kk : W p l e R s m args below meth c H locs cells slots Q (F0 m (pc + 3) ls (v :: rest))) : W p l e R s m args below meth c H locs cells slots Q (F0 m pc ls (.ref a :: rest)) := by
  obtain ⟨hx, hb, hr, hml, hB, hown, hlocks, hnm⟩ := hC
  rw [hy0] at hown
  exact va_get (ci := 12) (C := RX12) (T := TX12) (N := 41) hx hb hB in_X12 hown hK.1 hP q0 he rfl 34 (by decide) (hB _ m_207) (fun _ h => h) hv hdg kk
theorem dX12_began_13 : decode cX12_began 13 = .ok (.aload_n 0, 1) := by decide +kernel
theorem dX12_began_14 : decode cX12_began 14 = .ok (.getfield 351, 3) := by decide +kernel
theorem dX12_began_17 : decode cX12_began 17 = .ok (.iload_n 1, 1) := by decide +kernel
theorem dX12_began_18 : decode cX12_began 18 = .ok (.iastore, 1) := by decide +kernel
theorem dX12_began_19 : decode cX12_began 19 = .ok (.aload_n 0, 1) := by decide +kernel
theorem dX12_began_20 : decode cX12_began 20 = .ok (.dup, 1) := by decide +kernel
theorem dX12_began_21 : decode cX12_began 21 = .ok (.getfield 351, 3) := by decide +kernel
theorem dX12_began_24 : decode cX12_began 24 = .ok (.iconst 1, 1) := by decide +kernel
theorem dX12_began_25 : decode cX12_began 25 = .ok (.iadd, 1) := by decide +kernel
theorem dX12_began_26 : decode cX12_began 26 = .ok (.putfield 351, 3) := by decide +kernel
theorem pf_X12_351 (hC : CX p s m meth c y0 b0 mL0 rt0 args) (hy0 : y0.cls = RX12) (hK : KK G s) (hP : va_P G.1 vwCl ws H) (hD : va_D A ws) (hS : va_S A H0 H locs) (q0 : Nat) {fs : List Value} {v : Value} {ws' : va_W} (he : ws[q0]? = some (a, .inr (12, fs))) (hl : 35 < fs.length) (hws : ws.set q0 (a, .inr (12, fs.set 35 v)) = ws') (hn : narrow .int v = v) (hfit : fits .int v = true) (hdg : decode b0 pc = .ok (.putfield 351, 3)) (kk : ∀ (H1 : Heap) (locs1 : List Loc), va_P G.1 vwCl ws' H1 → va_D A ws' → va_S A H0 H1 locs1 → W p l e R s m args below meth c H1 locs1 cells slots Q (F0 m (pc + 3) ls rest)) : W p l e R s m args below meth c H locs cells slots Q (F0 m pc ls (v :: .ref a :: rest)) := by
  obtain ⟨hx, hb, hr, hml, hB, hown, hlocks, hnm⟩ := hC
  rw [hy0] at hown
  subst hws
  exact va_put (ci := 12) (ty := .int) (C := RX12) (T := TX12) (N := 41) hx hb hB in_X12 tyX12 tyX12_ok nmX12 hown hK.1 hP hD hS q0 he rfl 35 (by decide) (hB _ m_1346) (fun _ h => h) rfl (by decide +kernel) hn hfit hl hdg kk
end WR
theorem nz_sub {a b : Int32} (h : ¬ a = b) : ¬ a - b = 0 := by
  intro h9
  apply h
  have e : a - b + b = 0 + b := by rw [h9]
  rw [Int32.sub_add_cancel, Int32.zero_add] at e
  exact e
section WR
variable {p : Program} {l : Launch} {e : Env} {R : Room} {s : State} {m : MethodId} {args : Array Value} {below : List Frame} {meth : Method} {c : Code} {H : Heap} {locs : List Loc} {cells slots : Nat} {Q : State → Prop}
variable {pc : Nat} {ls : Array Slot} {rest : List Value} {G : GG} {ws : va_W} {A : Nat → Prop} {y0 : MethodName} {b0 : ByteArray} {mL0 : Nat} {rt0 : Option FieldType} {a : Nat} {H0 : Heap}
theorem dX12_body_0 : decode cX12_body 0 = .ok (.iconst 4, 1) := by decide +kernel
theorem dX12_body_1 : decode cX12_body 1 = .ok (.iload_n 1, 1) := by decide +kernel
theorem dX12_body_2 : decode cX12_body 2 = .ok (.imul, 1) := by decide +kernel
theorem dX12_body_3 : decode cX12_body 3 = .ok (.iload_n 2, 1) := by decide +kernel
theorem dX12_body_4 : decode cX12_body 4 = .ok (.iadd, 1) := by decide +kernel
theorem dX12_body_5 : decode cX12_body 5 = .ok (.tableswitch 348 0 22 #[107, 120, 135, 153, 348, 202, 348, 348, 348, 348, 221, 348, 348, 237, 348, 253, 269, 348, 288, 348, 329, 348, 313], 107) := by decide +kernel
theorem dX12_body_112 : decode cX12_body 112 = .ok (.aload_n 0, 1) := by decide +kernel
theorem dX12_body_113 : decode cX12_body 113 = .ok (.bipush 10, 2) := by decide +kernel
theorem dX12_body_115 : decode cX12_body 115 = .ok (.invokevirtual 366, 3) := by decide +kernel
theorem m_1363 : Cond.code yX12_began cX12_began 2 none ∈ BW := List.mem_of_getElem? (i := 1363) (by decide +kernel)
theorem m_1360 : Cond.methodLink RX12 366 yX12_began ∈ BW := List.mem_of_getElem? (i := 1360) (by decide +kernel)
theorem m_1361 : Cond.instanceMethod yX12_began ∈ BW := List.mem_of_getElem? (i := 1361) (by decide +kernel)
theorem m_1362 : Cond.selects RX12 yX12_began yX12_began ∈ BW := List.mem_of_getElem? (i := 1362) (by decide +kernel)
theorem si_X12_366 : SV RX12 RX12 366 yX12_began cX12_began 2 none 1 := ⟨⟨m_1360, m_1361, m_1362, m_5, m_1363⟩, rfl, by decide +kernel, by decide +kernel, by decide +kernel⟩
theorem dX12_body_118 : decode cX12_body 118 = .ok (.iload_n 3, 1) := by decide +kernel
theorem dX12_body_119 : decode cX12_body 119 = .ok (.aload_n 0, 1) := by decide +kernel
theorem dX12_body_120 : decode cX12_body 120 = .ok (.getfield 369, 3) := by decide +kernel
theorem m_1350 : Cond.fieldLink RX12 369 "InquiryBenchModel" "size" "I" ∈ BW := List.mem_of_getElem? (i := 1350) (by decide +kernel)
theorem gf_X12_369 (hC : CX p s m meth c y0 b0 mL0 rt0 args) (hy0 : y0.cls = RX12) (hK : KK G s) (hP : va_P G.1 vwCl ws H) (q0 : Nat) {fs : List Value} {v : Value} (he : ws[q0]? = some (a, .inr (12, fs))) (hv : fs[39]? = some v) (hdg : decode b0 pc = .ok (.getfield 369, 3)) (kk : W p l e R s m args below meth c H locs cells slots Q (F0 m (pc + 3) ls (v :: rest))) : W p l e R s m args below meth c H locs cells slots Q (F0 m pc ls (.ref a :: rest)) := by
  obtain ⟨hx, hb, hr, hml, hB, hown, hlocks, hnm⟩ := hC
  rw [hy0] at hown
  exact va_get (ci := 12) (C := RX12) (T := TX12) (N := 41) hx hb hB in_X12 hown hK.1 hP q0 he rfl 39 (by decide) (hB _ m_1350) (fun _ h => h) hv hdg kk
theorem dX12_body_123 : decode cX12_body 123 = .ok (.iadd, 1) := by decide +kernel
theorem dX12_body_124 : decode cX12_body 124 = .ok (.ireturn, 1) := by decide +kernel
theorem dX12_bodyFrom_0 : decode cX12_bodyFrom 0 = .ok (.iload_n 1, 1) := by decide +kernel
theorem dX12_bodyFrom_1 : decode cX12_bodyFrom 1 = .ok (.istore 4, 2) := by decide +kernel
theorem dX12_bodyFrom_3 : decode cX12_bodyFrom 3 = .ok (.iload 4, 2) := by decide +kernel
theorem dX12_bodyFrom_5 : decode cX12_bodyFrom 5 = .ok (.iload_n 2, 1) := by decide +kernel
theorem dX12_bodyFrom_6 : decode cX12_bodyFrom 6 = .ok (.invokestatic 360, 3) := by decide +kernel
theorem m_1367 : Cond.code yX12_hasOwn cX12_hasOwn 2 (some .boolean) ∈ BW := List.mem_of_getElem? (i := 1367) (by decide +kernel)
theorem m_1365 : Cond.methodLink RX12 360 yX12_hasOwn ∈ BW := List.mem_of_getElem? (i := 1365) (by decide +kernel)
theorem m_1366 : Cond.static yX12_hasOwn ∈ BW := List.mem_of_getElem? (i := 1366) (by decide +kernel)
theorem si_X12_360 : SS RX12 360 yX12_hasOwn cX12_hasOwn 2 (some .boolean) 2 := ⟨⟨m_1365, m_1366, m_5, m_1367⟩, ⟨by decide +kernel, by decide +kernel, by decide +kernel⟩⟩
theorem dX12_bodyFrom_9 : decode cX12_bodyFrom 9 = .ok (.ifCond .ne 13, 3) := by decide +kernel
theorem dX12_bodyFrom_22 : decode cX12_bodyFrom 22 = .ok (.aload_n 0, 1) := by decide +kernel
theorem dX12_bodyFrom_23 : decode cX12_bodyFrom 23 = .ok (.iload 4, 2) := by decide +kernel
theorem dX12_bodyFrom_25 : decode cX12_bodyFrom 25 = .ok (.iload_n 2, 1) := by decide +kernel
theorem dX12_bodyFrom_26 : decode cX12_bodyFrom 26 = .ok (.iload_n 3, 1) := by decide +kernel
theorem dX12_bodyFrom_27 : decode cX12_bodyFrom 27 = .ok (.invokevirtual 363, 3) := by decide +kernel
theorem m_1359 : Cond.code yX12_body cX12_body 6 (some .int) ∈ BW := List.mem_of_getElem? (i := 1359) (by decide +kernel)
theorem m_1368 : Cond.methodLink RX12 363 yX12_body ∈ BW := List.mem_of_getElem? (i := 1368) (by decide +kernel)
theorem m_1369 : Cond.instanceMethod yX12_body ∈ BW := List.mem_of_getElem? (i := 1369) (by decide +kernel)
theorem m_1370 : Cond.selects RX12 yX12_body yX12_body ∈ BW := List.mem_of_getElem? (i := 1370) (by decide +kernel)
theorem si_X12_363 : SV RX12 RX12 363 yX12_body cX12_body 6 (some .int) 3 := ⟨⟨m_1368, m_1369, m_1370, m_5, m_1359⟩, rfl, by decide +kernel, by decide +kernel, by decide +kernel⟩
theorem dX12_bodyFrom_30 : decode cX12_bodyFrom 30 = .ok (.ireturn, 1) := by decide +kernel
theorem dX12_body_274 : decode cX12_body 274 = .ok (.aload_n 0, 1) := by decide +kernel
theorem dX12_body_275 : decode cX12_body 275 = .ok (.bipush 50, 2) := by decide +kernel
theorem dX12_body_277 : decode cX12_body 277 = .ok (.invokevirtual 366, 3) := by decide +kernel
theorem dX12_body_280 : decode cX12_body 280 = .ok (.aload_n 0, 1) := by decide +kernel
theorem dX12_body_281 : decode cX12_body 281 = .ok (.iconst 0, 1) := by decide +kernel
theorem dX12_body_282 : decode cX12_body 282 = .ok (.iconst 0, 1) := by decide +kernel
theorem dX12_body_283 : decode cX12_body 283 = .ok (.iload_n 3, 1) := by decide +kernel
theorem dX12_body_284 : decode cX12_body 284 = .ok (.invokevirtual 357, 3) := by decide +kernel
theorem m_1364 : Cond.code yX12_bodyFrom cX12_bodyFrom 5 (some .int) ∈ BW := List.mem_of_getElem? (i := 1364) (by decide +kernel)
theorem m_1356 : Cond.methodLink RX12 357 yX12_bodyFrom ∈ BW := List.mem_of_getElem? (i := 1356) (by decide +kernel)
theorem m_1357 : Cond.instanceMethod yX12_bodyFrom ∈ BW := List.mem_of_getElem? (i := 1357) (by decide +kernel)
theorem m_1358 : Cond.selects RX12 yX12_bodyFrom yX12_bodyFrom ∈ BW := List.mem_of_getElem? (i := 1358) (by decide +kernel)
theorem si_X12_357 : SV RX12 RX12 357 yX12_bodyFrom cX12_bodyFrom 5 (some .int) 3 := ⟨⟨m_1356, m_1357, m_1358, m_5, m_1364⟩, rfl, by decide +kernel, by decide +kernel, by decide +kernel⟩
theorem dX12_body_287 : decode cX12_body 287 = .ok (.aload_n 0, 1) := by decide +kernel
theorem dX12_body_288 : decode cX12_body 288 = .ok (.getfield 378, 3) := by decide +kernel
theorem m_1348 : Cond.fieldLink RX12 378 "InquiryBenchModel" "numbe\x72" "I" ∈ BW := List.mem_of_getElem? (i := 1348) (by decide +kernel)
theorem gf_X12_378 (hC : CX p s m meth c y0 b0 mL0 rt0 args) (hy0 : y0.cls = RX12) (hK : KK G s) (hP : va_P G.1 vwCl ws H) (q0 : Nat) {fs : List Value} {v : Value} (he : ws[q0]? = some (a, .inr (12, fs))) (hv : fs[37]? = some v) (hdg : decode b0 pc = .ok (.getfield 378, 3)) (kk : W p l e R s m args below meth c H locs cells slots Q (F0 m (pc + 3) ls (v :: rest))) : W p l e R s m args below meth c H locs cells slots Q (F0 m pc ls (.ref a :: rest)) := by
  obtain ⟨hx, hb, hr, hml, hB, hown, hlocks, hnm⟩ := hC
  rw [hy0] at hown
  exact va_get (ci := 12) (C := RX12) (T := TX12) (N := 41) hx hb hB in_X12 hown hK.1 hP q0 he rfl 37 (by decide) (hB _ m_1348) (fun _ h => h) hv hdg kk
theorem dX12_body_291 : decode cX12_body 291 = .ok (.isub, 1) := by decide +kernel
theorem dX12_body_292 : decode cX12_body 292 = .ok (.ireturn, 1) := by decide +kernel
theorem dX12_body_334 : decode cX12_body 334 = .ok (.aload_n 0, 1) := by decide +kernel
theorem dX12_body_335 : decode cX12_body 335 = .ok (.bipush 61, 2) := by decide +kernel
theorem dX12_body_337 : decode cX12_body 337 = .ok (.invokevirtual 366, 3) := by decide +kernel
theorem dX12_body_340 : decode cX12_body 340 = .ok (.aload_n 0, 1) := by decide +kernel
theorem dX12_body_341 : decode cX12_body 341 = .ok (.iconst 4, 1) := by decide +kernel
theorem dX12_body_342 : decode cX12_body 342 = .ok (.iconst 0, 1) := by decide +kernel
theorem dX12_body_343 : decode cX12_body 343 = .ok (.iload_n 3, 1) := by decide +kernel
theorem dX12_body_344 : decode cX12_body 344 = .ok (.aload_n 0, 1) := by decide +kernel
theorem dX12_body_345 : decode cX12_body 345 = .ok (.getfield 375, 3) := by decide +kernel
theorem m_1349 : Cond.fieldLink RX12 375 "InquiryBenchModel" "whose" "I" ∈ BW := List.mem_of_getElem? (i := 1349) (by decide +kernel)
theorem gf_X12_375 (hC : CX p s m meth c y0 b0 mL0 rt0 args) (hy0 : y0.cls = RX12) (hK : KK G s) (hP : va_P G.1 vwCl ws H) (q0 : Nat) {fs : List Value} {v : Value} (he : ws[q0]? = some (a, .inr (12, fs))) (hv : fs[38]? = some v) (hdg : decode b0 pc = .ok (.getfield 375, 3)) (kk : W p l e R s m args below meth c H locs cells slots Q (F0 m (pc + 3) ls (v :: rest))) : W p l e R s m args below meth c H locs cells slots Q (F0 m pc ls (.ref a :: rest)) := by
  obtain ⟨hx, hb, hr, hml, hB, hown, hlocks, hnm⟩ := hC
  rw [hy0] at hown
  exact va_get (ci := 12) (C := RX12) (T := TX12) (N := 41) hx hb hB in_X12 hown hK.1 hP q0 he rfl 38 (by decide) (hB _ m_1349) (fun _ h => h) hv hdg kk
theorem dX12_body_348 : decode cX12_body 348 = .ok (.iadd, 1) := by decide +kernel
theorem dX12_body_349 : decode cX12_body 349 = .ok (.invokevirtual 357, 3) := by decide +kernel
theorem dX12_body_352 : decode cX12_body 352 = .ok (.ireturn, 1) := by decide +kernel
theorem dX12_bodyFrom_12 : decode cX12_bodyFrom 12 = .ok (.iload 4, 2) := by decide +kernel
theorem dX12_bodyFrom_14 : decode cX12_bodyFrom 14 = .ok (.invokestatic 348, 3) := by decide +kernel
theorem dX12_bodyFrom_17 : decode cX12_bodyFrom 17 = .ok (.istore 4, 2) := by decide +kernel
theorem dX12_bodyFrom_19 : decode cX12_bodyFrom 19 = .ok (.goto (-16), 3) := by decide +kernel
theorem dX12_dealt_0 : decode cX12_dealt 0 = .ok (.aload_n 0, 1) := by decide +kernel
theorem dX12_dealt_1 : decode cX12_dealt 1 = .ok (.aload_n 0, 1) := by decide +kernel
theorem dX12_dealt_2 : decode cX12_dealt 2 = .ok (.getfield 354, 3) := by decide +kernel
theorem m_1347 : Cond.fieldLink RX12 354 "InquiryBenchModel" "deale\x72" "I" ∈ BW := List.mem_of_getElem? (i := 1347) (by decide +kernel)
theorem gf_X12_354 (hC : CX p s m meth c y0 b0 mL0 rt0 args) (hy0 : y0.cls = RX12) (hK : KK G s) (hP : va_P G.1 vwCl ws H) (q0 : Nat) {fs : List Value} {v : Value} (he : ws[q0]? = some (a, .inr (12, fs))) (hv : fs[36]? = some v) (hdg : decode b0 pc = .ok (.getfield 354, 3)) (kk : W p l e R s m args below meth c H locs cells slots Q (F0 m (pc + 3) ls (v :: rest))) : W p l e R s m args below meth c H locs cells slots Q (F0 m pc ls (.ref a :: rest)) := by
  obtain ⟨hx, hb, hr, hml, hB, hown, hlocks, hnm⟩ := hC
  rw [hy0] at hown
  exact va_get (ci := 12) (C := RX12) (T := TX12) (N := 41) hx hb hB in_X12 hown hK.1 hP q0 he rfl 36 (by decide) (hB _ m_1347) (fun _ h => h) hv hdg kk
theorem dX12_dealt_5 : decode cX12_dealt 5 = .ok (.iload_n 1, 1) := by decide +kernel
theorem dX12_dealt_6 : decode cX12_dealt 6 = .ok (.iload_n 2, 1) := by decide +kernel
theorem dX12_dealt_7 : decode cX12_dealt 7 = .ok (.invokevirtual 357, 3) := by decide +kernel
theorem dX12_dealt_10 : decode cX12_dealt 10 = .ok (.ireturn, 1) := by decide +kernel
theorem dX12_body_125 : decode cX12_body 125 = .ok (.aload_n 0, 1) := by decide +kernel
theorem dX12_body_126 : decode cX12_body 126 = .ok (.bipush 11, 2) := by decide +kernel
theorem dX12_body_128 : decode cX12_body 128 = .ok (.invokevirtual 366, 3) := by decide +kernel
theorem dX12_body_131 : decode cX12_body 131 = .ok (.aload_n 0, 1) := by decide +kernel
theorem dX12_body_132 : decode cX12_body 132 = .ok (.iconst 0, 1) := by decide +kernel
theorem dX12_body_133 : decode cX12_body 133 = .ok (.iload_n 3, 1) := by decide +kernel
theorem dX12_body_134 : decode cX12_body 134 = .ok (.invokevirtual 372, 3) := by decide +kernel
theorem m_1355 : Cond.code yX12_dealt cX12_dealt 3 (some .int) ∈ BW := List.mem_of_getElem? (i := 1355) (by decide +kernel)
theorem m_1352 : Cond.methodLink RX12 372 yX12_dealt ∈ BW := List.mem_of_getElem? (i := 1352) (by decide +kernel)
theorem m_1353 : Cond.instanceMethod yX12_dealt ∈ BW := List.mem_of_getElem? (i := 1353) (by decide +kernel)
theorem m_1354 : Cond.selects RX12 yX12_dealt yX12_dealt ∈ BW := List.mem_of_getElem? (i := 1354) (by decide +kernel)
theorem si_X12_372 : SV RX12 RX12 372 yX12_dealt cX12_dealt 3 (some .int) 2 := ⟨⟨m_1352, m_1353, m_1354, m_5, m_1355⟩, rfl, by decide +kernel, by decide +kernel, by decide +kernel⟩
theorem dX12_body_137 : decode cX12_body 137 = .ok (.iconst 2, 1) := by decide +kernel
theorem dX12_body_138 : decode cX12_body 138 = .ok (.imul, 1) := by decide +kernel
theorem dX12_body_139 : decode cX12_body 139 = .ok (.ireturn, 1) := by decide +kernel
theorem dX12_body_207 : decode cX12_body 207 = .ok (.aload_n 0, 1) := by decide +kernel
theorem dX12_body_208 : decode cX12_body 208 = .ok (.bipush 20, 2) := by decide +kernel
theorem dX12_body_210 : decode cX12_body 210 = .ok (.invokevirtual 366, 3) := by decide +kernel
theorem dX12_body_213 : decode cX12_body 213 = .ok (.aload_n 0, 1) := by decide +kernel
theorem dX12_body_214 : decode cX12_body 214 = .ok (.iconst 0, 1) := by decide +kernel
theorem dX12_body_215 : decode cX12_body 215 = .ok (.iconst 1, 1) := by decide +kernel
theorem dX12_body_216 : decode cX12_body 216 = .ok (.iload_n 3, 1) := by decide +kernel
theorem dX12_body_217 : decode cX12_body 217 = .ok (.invokevirtual 357, 3) := by decide +kernel
theorem dX12_body_220 : decode cX12_body 220 = .ok (.aload_n 0, 1) := by decide +kernel
theorem dX12_body_221 : decode cX12_body 221 = .ok (.getfield 378, 3) := by decide +kernel
theorem dX12_body_224 : decode cX12_body 224 = .ok (.ixor, 1) := by decide +kernel
theorem dX12_body_225 : decode cX12_body 225 = .ok (.ireturn, 1) := by decide +kernel
theorem dX12_body_242 : decode cX12_body 242 = .ok (.aload_n 0, 1) := by decide +kernel
theorem dX12_body_243 : decode cX12_body 243 = .ok (.bipush 40, 2) := by decide +kernel
theorem dX12_body_245 : decode cX12_body 245 = .ok (.invokevirtual 366, 3) := by decide +kernel
theorem dX12_body_248 : decode cX12_body 248 = .ok (.iconst 0, 1) := by decide +kernel
theorem dX12_body_249 : decode cX12_body 249 = .ok (.aload_n 0, 1) := by decide +kernel
theorem dX12_body_250 : decode cX12_body 250 = .ok (.iconst 1, 1) := by decide +kernel
theorem dX12_body_251 : decode cX12_body 251 = .ok (.iconst 1, 1) := by decide +kernel
theorem dX12_body_252 : decode cX12_body 252 = .ok (.iload_n 3, 1) := by decide +kernel
theorem dX12_body_253 : decode cX12_body 253 = .ok (.invokevirtual 357, 3) := by decide +kernel
theorem dX12_body_256 : decode cX12_body 256 = .ok (.isub, 1) := by decide +kernel
theorem dX12_body_257 : decode cX12_body 257 = .ok (.ireturn, 1) := by decide +kernel
theorem dX12_body_140 : decode cX12_body 140 = .ok (.aload_n 0, 1) := by decide +kernel
theorem dX12_body_141 : decode cX12_body 141 = .ok (.bipush 12, 2) := by decide +kernel
theorem dX12_body_143 : decode cX12_body 143 = .ok (.invokevirtual 366, 3) := by decide +kernel
theorem dX12_body_146 : decode cX12_body 146 = .ok (.aload_n 0, 1) := by decide +kernel
theorem dX12_body_147 : decode cX12_body 147 = .ok (.iconst 1, 1) := by decide +kernel
theorem dX12_body_148 : decode cX12_body 148 = .ok (.iload_n 3, 1) := by decide +kernel
theorem dX12_body_149 : decode cX12_body 149 = .ok (.invokevirtual 372, 3) := by decide +kernel
theorem dX12_body_152 : decode cX12_body 152 = .ok (.aload_n 0, 1) := by decide +kernel
theorem dX12_body_153 : decode cX12_body 153 = .ok (.getfield 375, 3) := by decide +kernel
theorem dX12_body_156 : decode cX12_body 156 = .ok (.isub, 1) := by decide +kernel
theorem dX12_body_157 : decode cX12_body 157 = .ok (.ireturn, 1) := by decide +kernel
theorem dX12_body_226 : decode cX12_body 226 = .ok (.aload_n 0, 1) := by decide +kernel
theorem dX12_body_227 : decode cX12_body 227 = .ok (.bipush 30, 2) := by decide +kernel
theorem dX12_body_229 : decode cX12_body 229 = .ok (.invokevirtual 366, 3) := by decide +kernel
theorem dX12_body_232 : decode cX12_body 232 = .ok (.aload_n 0, 1) := by decide +kernel
theorem dX12_body_233 : decode cX12_body 233 = .ok (.iconst 0, 1) := by decide +kernel
theorem dX12_body_234 : decode cX12_body 234 = .ok (.iconst 2, 1) := by decide +kernel
theorem dX12_body_235 : decode cX12_body 235 = .ok (.iload_n 3, 1) := by decide +kernel
theorem dX12_body_236 : decode cX12_body 236 = .ok (.invokevirtual 357, 3) := by decide +kernel
theorem dX12_body_239 : decode cX12_body 239 = .ok (.iconst 3, 1) := by decide +kernel
theorem dX12_body_240 : decode cX12_body 240 = .ok (.imul, 1) := by decide +kernel
theorem dX12_body_241 : decode cX12_body 241 = .ok (.ireturn, 1) := by decide +kernel
theorem dX12_body_293 : decode cX12_body 293 = .ok (.aload_n 0, 1) := by decide +kernel
theorem dX12_body_294 : decode cX12_body 294 = .ok (.bipush 51, 2) := by decide +kernel
theorem dX12_body_296 : decode cX12_body 296 = .ok (.invokevirtual 366, 3) := by decide +kernel
theorem dX12_body_299 : decode cX12_body 299 = .ok (.aload_n 0, 1) := by decide +kernel
theorem dX12_body_300 : decode cX12_body 300 = .ok (.iconst 0, 1) := by decide +kernel
theorem dX12_body_301 : decode cX12_body 301 = .ok (.iconst 2, 1) := by decide +kernel
theorem dX12_body_302 : decode cX12_body 302 = .ok (.iload_n 3, 1) := by decide +kernel
theorem dX12_body_303 : decode cX12_body 303 = .ok (.invokevirtual 357, 3) := by decide +kernel
theorem dX12_body_306 : decode cX12_body 306 = .ok (.istore 4, 2) := by decide +kernel
theorem dX12_body_308 : decode cX12_body 308 = .ok (.iload 4, 2) := by decide +kernel
theorem dX12_body_310 : decode cX12_body 310 = .ok (.aload_n 0, 1) := by decide +kernel
theorem dX12_body_311 : decode cX12_body 311 = .ok (.iconst 1, 1) := by decide +kernel
theorem dX12_body_312 : decode cX12_body 312 = .ok (.iconst 1, 1) := by decide +kernel
theorem dX12_body_313 : decode cX12_body 313 = .ok (.invokevirtual 372, 3) := by decide +kernel
theorem dX12_body_316 : decode cX12_body 316 = .ok (.iadd, 1) := by decide +kernel
theorem dX12_body_317 : decode cX12_body 317 = .ok (.ireturn, 1) := by decide +kernel
theorem dX12_body_318 : decode cX12_body 318 = .ok (.aload_n 0, 1) := by decide +kernel
theorem dX12_body_319 : decode cX12_body 319 = .ok (.bipush 60, 2) := by decide +kernel
theorem dX12_body_321 : decode cX12_body 321 = .ok (.invokevirtual 366, 3) := by decide +kernel
theorem dX12_body_324 : decode cX12_body 324 = .ok (.aload_n 0, 1) := by decide +kernel
theorem dX12_body_325 : decode cX12_body 325 = .ok (.iconst 4, 1) := by decide +kernel
theorem dX12_body_326 : decode cX12_body 326 = .ok (.iconst 2, 1) := by decide +kernel
theorem dX12_body_327 : decode cX12_body 327 = .ok (.iload_n 3, 1) := by decide +kernel
theorem dX12_body_328 : decode cX12_body 328 = .ok (.invokevirtual 357, 3) := by decide +kernel
theorem dX12_body_331 : decode cX12_body 331 = .ok (.iconst 2, 1) := by decide +kernel
theorem dX12_body_332 : decode cX12_body 332 = .ok (.imul, 1) := by decide +kernel
theorem dX12_body_333 : decode cX12_body 333 = .ok (.ireturn, 1) := by decide +kernel
theorem dX12_body_158 : decode cX12_body 158 = .ok (.aload_n 0, 1) := by decide +kernel
theorem dX12_body_159 : decode cX12_body 159 = .ok (.bipush 13, 2) := by decide +kernel
theorem dX12_body_161 : decode cX12_body 161 = .ok (.invokevirtual 366, 3) := by decide +kernel
theorem dX12_body_164 : decode cX12_body 164 = .ok (.aload_n 0, 1) := by decide +kernel
theorem dX12_body_165 : decode cX12_body 165 = .ok (.aload_n 0, 1) := by decide +kernel
theorem dX12_body_166 : decode cX12_body 166 = .ok (.getfield 375, 3) := by decide +kernel
theorem dX12_body_169 : decode cX12_body 169 = .ok (.aload_n 0, 1) := by decide +kernel
theorem dX12_body_170 : decode cX12_body 170 = .ok (.getfield 378, 3) := by decide +kernel
theorem dX12_body_173 : decode cX12_body 173 = .ok (.if_icmp .ne 7, 3) := by decide +kernel
theorem dX12_body_180 : decode cX12_body 180 = .ok (.iconst 0, 1) := by decide +kernel
theorem dX12_body_181 : decode cX12_body 181 = .ok (.putfield 380, 3) := by decide +kernel
theorem m_1351 : Cond.fieldLink RX12 380 "InquiryBenchModel" "isParted" "Z" ∈ BW := List.mem_of_getElem? (i := 1351) (by decide +kernel)
theorem pf_X12_380 (hC : CX p s m meth c y0 b0 mL0 rt0 args) (hy0 : y0.cls = RX12) (hK : KK G s) (hP : va_P G.1 vwCl ws H) (hD : va_D A ws) (hS : va_S A H0 H locs) (q0 : Nat) {fs : List Value} {v : Value} {ws' : va_W} (he : ws[q0]? = some (a, .inr (12, fs))) (hl : 40 < fs.length) (hws : ws.set q0 (a, .inr (12, fs.set 40 v)) = ws') (hn : narrow .boolean v = v) (hfit : fits .boolean v = true) (hdg : decode b0 pc = .ok (.putfield 380, 3)) (kk : ∀ (H1 : Heap) (locs1 : List Loc), va_P G.1 vwCl ws' H1 → va_D A ws' → va_S A H0 H1 locs1 → W p l e R s m args below meth c H1 locs1 cells slots Q (F0 m (pc + 3) ls rest)) : W p l e R s m args below meth c H locs cells slots Q (F0 m pc ls (v :: .ref a :: rest)) := by
  obtain ⟨hx, hb, hr, hml, hB, hown, hlocks, hnm⟩ := hC
  rw [hy0] at hown
  subst hws
  exact va_put (ci := 12) (ty := .boolean) (C := RX12) (T := TX12) (N := 41) hx hb hB in_X12 tyX12 tyX12_ok nmX12 hown hK.1 hP hD hS q0 he rfl 40 (by decide) (hB _ m_1351) (fun _ h => h) rfl (by decide +kernel) hn hfit hl hdg kk
theorem dX12_body_184 : decode cX12_body 184 = .ok (.aload_n 0, 1) := by decide +kernel
theorem dX12_body_185 : decode cX12_body 185 = .ok (.getfield 380, 3) := by decide +kernel
theorem gf_X12_380 (hC : CX p s m meth c y0 b0 mL0 rt0 args) (hy0 : y0.cls = RX12) (hK : KK G s) (hP : va_P G.1 vwCl ws H) (q0 : Nat) {fs : List Value} {v : Value} (he : ws[q0]? = some (a, .inr (12, fs))) (hv : fs[40]? = some v) (hdg : decode b0 pc = .ok (.getfield 380, 3)) (kk : W p l e R s m args below meth c H locs cells slots Q (F0 m (pc + 3) ls (v :: rest))) : W p l e R s m args below meth c H locs cells slots Q (F0 m pc ls (.ref a :: rest)) := by
  obtain ⟨hx, hb, hr, hml, hB, hown, hlocks, hnm⟩ := hC
  rw [hy0] at hown
  exact va_get (ci := 12) (C := RX12) (T := TX12) (N := 41) hx hb hB in_X12 hown hK.1 hP q0 he rfl 40 (by decide) (hB _ m_1351) (fun _ h => h) hv hdg kk
theorem dX12_body_188 : decode cX12_body 188 = .ok (.ifCond .eq 7, 3) := by decide +kernel
theorem dX12_body_195 : decode cX12_body 195 = .ok (.iload_n 3, 1) := by decide +kernel
theorem dX12_body_196 : decode cX12_body 196 = .ok (.aload_n 0, 1) := by decide +kernel
theorem dX12_body_197 : decode cX12_body 197 = .ok (.getfield 375, 3) := by decide +kernel
theorem dX12_body_200 : decode cX12_body 200 = .ok (.aload_n 0, 1) := by decide +kernel
theorem dX12_body_201 : decode cX12_body 201 = .ok (.getfield 378, 3) := by decide +kernel
theorem dX12_body_204 : decode cX12_body 204 = .ok (.isub, 1) := by decide +kernel
theorem dX12_body_205 : decode cX12_body 205 = .ok (.idiv, 1) := by decide +kernel
theorem dX12_body_206 : decode cX12_body 206 = .ok (.ireturn, 1) := by decide +kernel
theorem dX12_body_176 : decode cX12_body 176 = .ok (.iconst 1, 1) := by decide +kernel
theorem dX12_body_177 : decode cX12_body 177 = .ok (.goto 4, 3) := by decide +kernel
theorem dX12_body_191 : decode cX12_body 191 = .ok (.iconst 0, 1) := by decide +kernel
theorem dX12_body_192 : decode cX12_body 192 = .ok (.goto 14, 3) := by decide +kernel
theorem dX12_body_258 : decode cX12_body 258 = .ok (.aload_n 0, 1) := by decide +kernel
theorem dX12_body_259 : decode cX12_body 259 = .ok (.bipush 41, 2) := by decide +kernel
theorem dX12_body_261 : decode cX12_body 261 = .ok (.invokevirtual 366, 3) := by decide +kernel
theorem dX12_body_264 : decode cX12_body 264 = .ok (.aload_n 0, 1) := by decide +kernel
theorem dX12_body_265 : decode cX12_body 265 = .ok (.iconst 1, 1) := by decide +kernel
theorem dX12_body_266 : decode cX12_body 266 = .ok (.iconst 3, 1) := by decide +kernel
theorem dX12_body_267 : decode cX12_body 267 = .ok (.iload_n 3, 1) := by decide +kernel
theorem dX12_body_268 : decode cX12_body 268 = .ok (.iconst 2, 1) := by decide +kernel
theorem dX12_body_269 : decode cX12_body 269 = .ok (.iadd, 1) := by decide +kernel
theorem dX12_body_270 : decode cX12_body 270 = .ok (.invokevirtual 357, 3) := by decide +kernel
theorem dX12_body_273 : decode cX12_body 273 = .ok (.ireturn, 1) := by decide +kernel
theorem dX12_body_353 : decode cX12_body 353 = .ok (.aload_n 0, 1) := by decide +kernel
theorem dX12_body_354 : decode cX12_body 354 = .ok (.bipush 70, 2) := by decide +kernel
theorem dX12_body_356 : decode cX12_body 356 = .ok (.invokevirtual 366, 3) := by decide +kernel
theorem dX12_body_359 : decode cX12_body 359 = .ok (.aload_n 0, 1) := by decide +kernel
theorem dX12_body_360 : decode cX12_body 360 = .ok (.iconst 0, 1) := by decide +kernel
theorem dX12_body_361 : decode cX12_body 361 = .ok (.iconst 3, 1) := by decide +kernel
theorem dX12_body_362 : decode cX12_body 362 = .ok (.iload_n 3, 1) := by decide +kernel
theorem dX12_body_363 : decode cX12_body 363 = .ok (.invokevirtual 357, 3) := by decide +kernel
theorem dX12_body_366 : decode cX12_body 366 = .ok (.istore 5, 2) := by decide +kernel
theorem dX12_body_368 : decode cX12_body 368 = .ok (.aload_n 0, 1) := by decide +kernel
theorem dX12_body_369 : decode cX12_body 369 = .ok (.getfield 380, 3) := by decide +kernel
theorem dX12_body_372 : decode cX12_body 372 = .ok (.ifCond .eq 7, 3) := by decide +kernel
theorem dX12_body_379 : decode cX12_body 379 = .ok (.iload 5, 2) := by decide +kernel
theorem dX12_body_381 : decode cX12_body 381 = .ok (.aload_n 0, 1) := by decide +kernel
theorem dX12_body_382 : decode cX12_body 382 = .ok (.iconst 0, 1) := by decide +kernel
theorem dX12_body_383 : decode cX12_body 383 = .ok (.aload_n 0, 1) := by decide +kernel
theorem dX12_body_384 : decode cX12_body 384 = .ok (.getfield 378, 3) := by decide +kernel
theorem dX12_body_387 : decode cX12_body 387 = .ok (.invokevirtual 372, 3) := by decide +kernel
theorem dX12_body_390 : decode cX12_body 390 = .ok (.isub, 1) := by decide +kernel
theorem dX12_body_391 : decode cX12_body 391 = .ok (.ireturn, 1) := by decide +kernel
theorem dX12_body_375 : decode cX12_body 375 = .ok (.iconst 0, 1) := by decide +kernel
theorem dX12_body_376 : decode cX12_body 376 = .ok (.goto 15, 3) := by decide +kernel
theorem dX12_deal_0 : decode cX12_deal 0 = .ok (.aload_n 0, 1) := by decide +kernel
theorem dX12_deal_1 : decode cX12_deal 1 = .ok (.iconst 0, 1) := by decide +kernel
theorem dX12_deal_2 : decode cX12_deal 2 = .ok (.putfield 351, 3) := by decide +kernel
theorem dX12_deal_5 : decode cX12_deal 5 = .ok (.iload_n 1, 1) := by decide +kernel
theorem dX12_deal_6 : decode cX12_deal 6 = .ok (.invokestatic 336, 3) := by decide +kernel
theorem dX12_deal_9 : decode cX12_deal 9 = .ok (.ifCond .eq 10, 3) := by decide +kernel
theorem dX12_deal_12 : decode cX12_deal 12 = .ok (.iload_n 2, 1) := by decide +kernel
theorem dX12_deal_13 : decode cX12_deal 13 = .ok (.invokestatic 336, 3) := by decide +kernel
theorem dX12_deal_16 : decode cX12_deal 16 = .ok (.ifCond .ne 7, 3) := by decide +kernel
theorem dX12_deal_23 : decode cX12_deal 23 = .ok (.aload_n 0, 1) := by decide +kernel
theorem dX12_deal_24 : decode cX12_deal 24 = .ok (.iload_n 1, 1) := by decide +kernel
theorem dX12_deal_25 : decode cX12_deal 25 = .ok (.invokevirtual 345, 3) := by decide +kernel
theorem dX12_deal_28 : decode cX12_deal 28 = .ok (.istore 4, 2) := by decide +kernel
theorem dX12_deal_30 : decode cX12_deal 30 = .ok (.iload 4, 2) := by decide +kernel
theorem dX12_deal_32 : decode cX12_deal 32 = .ok (.ifCond .ge 5, 3) := by decide +kernel
theorem dX12_deal_35 : decode cX12_deal 35 = .ok (.iconst 0, 1) := by decide +kernel
theorem dX12_deal_36 : decode cX12_deal 36 = .ok (.ireturn, 1) := by decide +kernel
theorem dX12_deal_37 : decode cX12_deal 37 = .ok (.aload_n 0, 1) := by decide +kernel
theorem dX12_deal_38 : decode cX12_deal 38 = .ok (.iload 4, 2) := by decide +kernel
theorem dX12_deal_40 : decode cX12_deal 40 = .ok (.putfield 354, 3) := by decide +kernel
theorem pf_X12_354 (hC : CX p s m meth c y0 b0 mL0 rt0 args) (hy0 : y0.cls = RX12) (hK : KK G s) (hP : va_P G.1 vwCl ws H) (hD : va_D A ws) (hS : va_S A H0 H locs) (q0 : Nat) {fs : List Value} {v : Value} {ws' : va_W} (he : ws[q0]? = some (a, .inr (12, fs))) (hl : 36 < fs.length) (hws : ws.set q0 (a, .inr (12, fs.set 36 v)) = ws') (hn : narrow .int v = v) (hfit : fits .int v = true) (hdg : decode b0 pc = .ok (.putfield 354, 3)) (kk : ∀ (H1 : Heap) (locs1 : List Loc), va_P G.1 vwCl ws' H1 → va_D A ws' → va_S A H0 H1 locs1 → W p l e R s m args below meth c H1 locs1 cells slots Q (F0 m (pc + 3) ls rest)) : W p l e R s m args below meth c H locs cells slots Q (F0 m pc ls (v :: .ref a :: rest)) := by
  obtain ⟨hx, hb, hr, hml, hB, hown, hlocks, hnm⟩ := hC
  rw [hy0] at hown
  subst hws
  exact va_put (ci := 12) (ty := .int) (C := RX12) (T := TX12) (N := 41) hx hb hB in_X12 tyX12 tyX12_ok nmX12 hown hK.1 hP hD hS q0 he rfl 36 (by decide) (hB _ m_1347) (fun _ h => h) rfl (by decide +kernel) hn hfit hl hdg kk
theorem dX12_deal_43 : decode cX12_deal 43 = .ok (.aload_n 0, 1) := by decide +kernel
theorem dX12_deal_44 : decode cX12_deal 44 = .ok (.aload_n 0, 1) := by decide +kernel
theorem dX12_deal_45 : decode cX12_deal 45 = .ok (.getfield 75, 3) := by decide +kernel
theorem dX12_deal_48 : decode cX12_deal 48 = .ok (.iload_n 1, 1) := by decide +kernel
theorem dX12_deal_49 : decode cX12_deal 49 = .ok (.iaload, 1) := by decide +kernel
theorem dX12_deal_50 : decode cX12_deal 50 = .ok (.putfield 378, 3) := by decide +kernel
theorem pf_X12_378 (hC : CX p s m meth c y0 b0 mL0 rt0 args) (hy0 : y0.cls = RX12) (hK : KK G s) (hP : va_P G.1 vwCl ws H) (hD : va_D A ws) (hS : va_S A H0 H locs) (q0 : Nat) {fs : List Value} {v : Value} {ws' : va_W} (he : ws[q0]? = some (a, .inr (12, fs))) (hl : 37 < fs.length) (hws : ws.set q0 (a, .inr (12, fs.set 37 v)) = ws') (hn : narrow .int v = v) (hfit : fits .int v = true) (hdg : decode b0 pc = .ok (.putfield 378, 3)) (kk : ∀ (H1 : Heap) (locs1 : List Loc), va_P G.1 vwCl ws' H1 → va_D A ws' → va_S A H0 H1 locs1 → W p l e R s m args below meth c H1 locs1 cells slots Q (F0 m (pc + 3) ls rest)) : W p l e R s m args below meth c H locs cells slots Q (F0 m pc ls (v :: .ref a :: rest)) := by
  obtain ⟨hx, hb, hr, hml, hB, hown, hlocks, hnm⟩ := hC
  rw [hy0] at hown
  subst hws
  exact va_put (ci := 12) (ty := .int) (C := RX12) (T := TX12) (N := 41) hx hb hB in_X12 tyX12 tyX12_ok nmX12 hown hK.1 hP hD hS q0 he rfl 37 (by decide) (hB _ m_1348) (fun _ h => h) rfl (by decide +kernel) hn hfit hl hdg kk
theorem dX12_deal_53 : decode cX12_deal 53 = .ok (.aload_n 0, 1) := by decide +kernel
theorem dX12_deal_54 : decode cX12_deal 54 = .ok (.getfield 72, 3) := by decide +kernel
theorem dX12_deal_57 : decode cX12_deal 57 = .ok (.iload_n 1, 1) := by decide +kernel
theorem dX12_deal_58 : decode cX12_deal 58 = .ok (.iaload, 1) := by decide +kernel
theorem dX12_deal_59 : decode cX12_deal 59 = .ok (.iconst 1, 1) := by decide +kernel
theorem dX12_deal_60 : decode cX12_deal 60 = .ok (.if_icmp .ne 7, 3) := by decide +kernel
theorem dX12_deal_63 : decode cX12_deal 63 = .ok (.iconst 1, 1) := by decide +kernel
theorem dX12_deal_64 : decode cX12_deal 64 = .ok (.goto 4, 3) := by decide +kernel
theorem dX12_deal_68 : decode cX12_deal 68 = .ok (.istore 5, 2) := by decide +kernel
theorem dX12_deal_70 : decode cX12_deal 70 = .ok (.aload_n 0, 1) := by decide +kernel
theorem dX12_deal_71 : decode cX12_deal 71 = .ok (.getfield 72, 3) := by decide +kernel
theorem dX12_deal_74 : decode cX12_deal 74 = .ok (.iload_n 1, 1) := by decide +kernel
theorem dX12_deal_75 : decode cX12_deal 75 = .ok (.iaload, 1) := by decide +kernel
theorem dX12_deal_76 : decode cX12_deal 76 = .ok (.iconst 2, 1) := by decide +kernel
theorem dX12_deal_77 : decode cX12_deal 77 = .ok (.if_icmp .ne 7, 3) := by decide +kernel
theorem dX12_deal_84 : decode cX12_deal 84 = .ok (.iconst 0, 1) := by decide +kernel
theorem dX12_deal_85 : decode cX12_deal 85 = .ok (.istore 6, 2) := by decide +kernel
theorem dX12_deal_87 : decode cX12_deal 87 = .ok (.aload_n 0, 1) := by decide +kernel
theorem dX12_deal_88 : decode cX12_deal 88 = .ok (.iload 5, 2) := by decide +kernel
theorem dX12_deal_90 : decode cX12_deal 90 = .ok (.ifCond .eq 15, 3) := by decide +kernel
theorem dX12_deal_93 : decode cX12_deal 93 = .ok (.aload_n 0, 1) := by decide +kernel
theorem dX12_deal_94 : decode cX12_deal 94 = .ok (.aload_n 0, 1) := by decide +kernel
theorem dX12_deal_95 : decode cX12_deal 95 = .ok (.getfield 378, 3) := by decide +kernel
theorem dX12_deal_98 : decode cX12_deal 98 = .ok (.iconst 0, 1) := by decide +kernel
theorem dX12_deal_99 : decode cX12_deal 99 = .ok (.invokevirtual 88, 3) := by decide +kernel
theorem dX12_deal_102 : decode cX12_deal 102 = .ok (.goto 37, 3) := by decide +kernel
theorem dX12_deal_139 : decode cX12_deal 139 = .ok (.putfield 375, 3) := by decide +kernel
theorem pf_X12_375 (hC : CX p s m meth c y0 b0 mL0 rt0 args) (hy0 : y0.cls = RX12) (hK : KK G s) (hP : va_P G.1 vwCl ws H) (hD : va_D A ws) (hS : va_S A H0 H locs) (q0 : Nat) {fs : List Value} {v : Value} {ws' : va_W} (he : ws[q0]? = some (a, .inr (12, fs))) (hl : 38 < fs.length) (hws : ws.set q0 (a, .inr (12, fs.set 38 v)) = ws') (hn : narrow .int v = v) (hfit : fits .int v = true) (hdg : decode b0 pc = .ok (.putfield 375, 3)) (kk : ∀ (H1 : Heap) (locs1 : List Loc), va_P G.1 vwCl ws' H1 → va_D A ws' → va_S A H0 H1 locs1 → W p l e R s m args below meth c H1 locs1 cells slots Q (F0 m (pc + 3) ls rest)) : W p l e R s m args below meth c H locs cells slots Q (F0 m pc ls (v :: .ref a :: rest)) := by
  obtain ⟨hx, hb, hr, hml, hB, hown, hlocks, hnm⟩ := hC
  rw [hy0] at hown
  subst hws
  exact va_put (ci := 12) (ty := .int) (C := RX12) (T := TX12) (N := 41) hx hb hB in_X12 tyX12 tyX12_ok nmX12 hown hK.1 hP hD hS q0 he rfl 38 (by decide) (hB _ m_1349) (fun _ h => h) rfl (by decide +kernel) hn hfit hl hdg kk
theorem dX12_deal_142 : decode cX12_deal 142 = .ok (.aload_n 0, 1) := by decide +kernel
theorem dX12_deal_143 : decode cX12_deal 143 = .ok (.iload 5, 2) := by decide +kernel
theorem dX12_deal_145 : decode cX12_deal 145 = .ok (.ifCond .eq 15, 3) := by decide +kernel
theorem dX12_deal_148 : decode cX12_deal 148 = .ok (.aload_n 0, 1) := by decide +kernel
theorem dX12_deal_149 : decode cX12_deal 149 = .ok (.aload_n 0, 1) := by decide +kernel
theorem dX12_deal_150 : decode cX12_deal 150 = .ok (.getfield 378, 3) := by decide +kernel
theorem dX12_deal_153 : decode cX12_deal 153 = .ok (.iconst 2, 1) := by decide +kernel
theorem dX12_deal_154 : decode cX12_deal 154 = .ok (.invokevirtual 88, 3) := by decide +kernel
theorem dX12_deal_157 : decode cX12_deal 157 = .ok (.goto 37, 3) := by decide +kernel
theorem dX12_deal_194 : decode cX12_deal 194 = .ok (.putfield 369, 3) := by decide +kernel
theorem pf_X12_369 (hC : CX p s m meth c y0 b0 mL0 rt0 args) (hy0 : y0.cls = RX12) (hK : KK G s) (hP : va_P G.1 vwCl ws H) (hD : va_D A ws) (hS : va_S A H0 H locs) (q0 : Nat) {fs : List Value} {v : Value} {ws' : va_W} (he : ws[q0]? = some (a, .inr (12, fs))) (hl : 39 < fs.length) (hws : ws.set q0 (a, .inr (12, fs.set 39 v)) = ws') (hn : narrow .int v = v) (hfit : fits .int v = true) (hdg : decode b0 pc = .ok (.putfield 369, 3)) (kk : ∀ (H1 : Heap) (locs1 : List Loc), va_P G.1 vwCl ws' H1 → va_D A ws' → va_S A H0 H1 locs1 → W p l e R s m args below meth c H1 locs1 cells slots Q (F0 m (pc + 3) ls rest)) : W p l e R s m args below meth c H locs cells slots Q (F0 m pc ls (v :: .ref a :: rest)) := by
  obtain ⟨hx, hb, hr, hml, hB, hown, hlocks, hnm⟩ := hC
  rw [hy0] at hown
  subst hws
  exact va_put (ci := 12) (ty := .int) (C := RX12) (T := TX12) (N := 41) hx hb hB in_X12 tyX12 tyX12_ok nmX12 hown hK.1 hP hD hS q0 he rfl 39 (by decide) (hB _ m_1350) (fun _ h => h) rfl (by decide +kernel) hn hfit hl hdg kk
theorem dX12_deal_197 : decode cX12_deal 197 = .ok (.aload_n 0, 1) := by decide +kernel
theorem dX12_deal_198 : decode cX12_deal 198 = .ok (.iconst 0, 1) := by decide +kernel
theorem dX12_deal_199 : decode cX12_deal 199 = .ok (.putfield 380, 3) := by decide +kernel
theorem dX12_deal_202 : decode cX12_deal 202 = .ok (.aload_n 0, 1) := by decide +kernel
theorem dX12_deal_203 : decode cX12_deal 203 = .ok (.iload_n 2, 1) := by decide +kernel
theorem dX12_deal_204 : decode cX12_deal 204 = .ok (.iload_n 3, 1) := by decide +kernel
theorem dX12_deal_205 : decode cX12_deal 205 = .ok (.invokevirtual 372, 3) := by decide +kernel
theorem dX12_deal_208 : decode cX12_deal 208 = .ok (.istore 7, 2) := by decide +kernel
theorem dX12_deal_210 : decode cX12_deal 210 = .ok (.aload_n 0, 1) := by decide +kernel
theorem dX12_deal_211 : decode cX12_deal 211 = .ok (.getfield 380, 3) := by decide +kernel
theorem dX12_deal_214 : decode cX12_deal 214 = .ok (.ifCond .eq 8, 3) := by decide +kernel
theorem dX12_deal_222 : decode cX12_deal 222 = .ok (.iload 7, 2) := by decide +kernel
theorem dX12_deal_224 : decode cX12_deal 224 = .ok (.ireturn, 1) := by decide +kernel
theorem dX12_deal_217 : decode cX12_deal 217 = .ok (.bipush (-15), 2) := by decide +kernel
theorem dX12_deal_219 : decode cX12_deal 219 = .ok (.goto 5, 3) := by decide +kernel
theorem dX12_deal_67 : decode cX12_deal 67 = .ok (.iconst 0, 1) := by decide +kernel
theorem dX12_deal_80 : decode cX12_deal 80 = .ok (.iconst 1, 1) := by decide +kernel
theorem dX12_deal_81 : decode cX12_deal 81 = .ok (.goto 4, 3) := by decide +kernel
theorem dX12_deal_105 : decode cX12_deal 105 = .ok (.iload 6, 2) := by decide +kernel
theorem dX12_deal_107 : decode cX12_deal 107 = .ok (.ifCond .eq 15, 3) := by decide +kernel
theorem dX12_deal_110 : decode cX12_deal 110 = .ok (.aload_n 0, 1) := by decide +kernel
theorem dX12_deal_111 : decode cX12_deal 111 = .ok (.aload_n 0, 1) := by decide +kernel
theorem dX12_deal_112 : decode cX12_deal 112 = .ok (.getfield 378, 3) := by decide +kernel
theorem dX12_deal_115 : decode cX12_deal 115 = .ok (.iconst 0, 1) := by decide +kernel
theorem dX12_deal_116 : decode cX12_deal 116 = .ok (.invokevirtual 114, 3) := by decide +kernel
theorem dX12_deal_119 : decode cX12_deal 119 = .ok (.goto 20, 3) := by decide +kernel
theorem dX12_deal_160 : decode cX12_deal 160 = .ok (.iload 6, 2) := by decide +kernel
theorem dX12_deal_162 : decode cX12_deal 162 = .ok (.ifCond .eq 15, 3) := by decide +kernel
theorem dX12_deal_165 : decode cX12_deal 165 = .ok (.aload_n 0, 1) := by decide +kernel
theorem dX12_deal_166 : decode cX12_deal 166 = .ok (.aload_n 0, 1) := by decide +kernel
theorem dX12_deal_167 : decode cX12_deal 167 = .ok (.getfield 378, 3) := by decide +kernel
theorem dX12_deal_170 : decode cX12_deal 170 = .ok (.iconst 4, 1) := by decide +kernel
theorem dX12_deal_171 : decode cX12_deal 171 = .ok (.invokevirtual 114, 3) := by decide +kernel
theorem dX12_deal_174 : decode cX12_deal 174 = .ok (.goto 20, 3) := by decide +kernel
theorem dX12_deal_122 : decode cX12_deal 122 = .ok (.aload_n 0, 1) := by decide +kernel
theorem dX12_deal_123 : decode cX12_deal 123 = .ok (.getfield 9, 3) := by decide +kernel
theorem dX12_deal_126 : decode cX12_deal 126 = .ok (.sipush 1552, 3) := by decide +kernel
theorem dX12_deal_129 : decode cX12_deal 129 = .ok (.iconst 4, 1) := by decide +kernel
theorem dX12_deal_130 : decode cX12_deal 130 = .ok (.aload_n 0, 1) := by decide +kernel
theorem dX12_deal_131 : decode cX12_deal 131 = .ok (.getfield 378, 3) := by decide +kernel
theorem dX12_deal_134 : decode cX12_deal 134 = .ok (.imul, 1) := by decide +kernel
theorem dX12_deal_135 : decode cX12_deal 135 = .ok (.iadd, 1) := by decide +kernel
theorem dX12_deal_136 : decode cX12_deal 136 = .ok (.iconst 0, 1) := by decide +kernel
theorem dX12_deal_137 : decode cX12_deal 137 = .ok (.iadd, 1) := by decide +kernel
theorem dX12_deal_138 : decode cX12_deal 138 = .ok (.iaload, 1) := by decide +kernel
theorem dX12_deal_177 : decode cX12_deal 177 = .ok (.aload_n 0, 1) := by decide +kernel
theorem dX12_deal_178 : decode cX12_deal 178 = .ok (.getfield 9, 3) := by decide +kernel
theorem dX12_deal_181 : decode cX12_deal 181 = .ok (.sipush 1552, 3) := by decide +kernel
theorem dX12_deal_184 : decode cX12_deal 184 = .ok (.iconst 4, 1) := by decide +kernel
theorem dX12_deal_185 : decode cX12_deal 185 = .ok (.aload_n 0, 1) := by decide +kernel
theorem dX12_deal_186 : decode cX12_deal 186 = .ok (.getfield 378, 3) := by decide +kernel
theorem dX12_deal_189 : decode cX12_deal 189 = .ok (.imul, 1) := by decide +kernel
theorem dX12_deal_190 : decode cX12_deal 190 = .ok (.iadd, 1) := by decide +kernel
theorem dX12_deal_191 : decode cX12_deal 191 = .ok (.iconst 2, 1) := by decide +kernel
theorem dX12_deal_192 : decode cX12_deal 192 = .ok (.iadd, 1) := by decide +kernel
theorem dX12_deal_193 : decode cX12_deal 193 = .ok (.iaload, 1) := by decide +kernel
theorem dX12_deal_19 : decode cX12_deal 19 = .ok (.iconst (-1), 1) := by decide +kernel
theorem dX12_deal_20 : decode cX12_deal 20 = .ok (.goto 8, 3) := by decide +kernel
theorem dX12_trace_0 : decode cX12_trace 0 = .ok (.iload_n 1, 1) := by decide +kernel
theorem dX12_trace_1 : decode cX12_trace 1 = .ok (.iconst 0, 1) := by decide +kernel
theorem dX12_trace_2 : decode cX12_trace 2 = .ok (.aload_n 0, 1) := by decide +kernel
theorem dX12_trace_3 : decode cX12_trace 3 = .ok (.getfield 351, 3) := by decide +kernel
theorem dX12_trace_6 : decode cX12_trace 6 = .ok (.iconst 1, 1) := by decide +kernel
theorem dX12_trace_7 : decode cX12_trace 7 = .ok (.isub, 1) := by decide +kernel
theorem dX12_trace_8 : decode cX12_trace 8 = .ok (.invokestatic 84, 3) := by decide +kernel
theorem dX12_trace_11 : decode cX12_trace 11 = .ok (.ifCond .eq 12, 3) := by decide +kernel
theorem dX12_trace_14 : decode cX12_trace 14 = .ok (.aload_n 0, 1) := by decide +kernel
theorem dX12_trace_15 : decode cX12_trace 15 = .ok (.getfield 81, 3) := by decide +kernel
theorem dX12_trace_18 : decode cX12_trace 18 = .ok (.iload_n 1, 1) := by decide +kernel
theorem dX12_trace_19 : decode cX12_trace 19 = .ok (.iaload, 1) := by decide +kernel
theorem dX12_trace_20 : decode cX12_trace 20 = .ok (.goto 5, 3) := by decide +kernel
theorem dX12_trace_25 : decode cX12_trace 25 = .ok (.ireturn, 1) := by decide +kernel
theorem dX12_trace_23 : decode cX12_trace 23 = .ok (.bipush (-3), 2) := by decide +kernel
theorem dX12_many_0 : decode cX12_many 0 = .ok (.iload_n 1, 1) := by decide +kernel
theorem dX12_many_1 : decode cX12_many 1 = .ok (.tableswitch 212 0 14 #[75, 82, 89, 96, 104, 112, 120, 128, 134, 142, 181, 189, 197, 202, 207], 75) := by decide +kernel
theorem dX12_many_76 : decode cX12_many 76 = .ok (.aload_n 0, 1) := by decide +kernel
theorem dX12_many_77 : decode cX12_many 77 = .ok (.getfield 9, 3) := by decide +kernel
theorem dX12_many_80 : decode cX12_many 80 = .ok (.iconst 0, 1) := by decide +kernel
theorem dX12_many_81 : decode cX12_many 81 = .ok (.iaload, 1) := by decide +kernel
theorem dX12_many_82 : decode cX12_many 82 = .ok (.ireturn, 1) := by decide +kernel
theorem dX12_many_83 : decode cX12_many 83 = .ok (.aload_n 0, 1) := by decide +kernel
theorem dX12_many_84 : decode cX12_many 84 = .ok (.getfield 9, 3) := by decide +kernel
theorem dX12_many_87 : decode cX12_many 87 = .ok (.iconst 4, 1) := by decide +kernel
theorem dX12_many_88 : decode cX12_many 88 = .ok (.iaload, 1) := by decide +kernel
theorem dX12_many_89 : decode cX12_many 89 = .ok (.ireturn, 1) := by decide +kernel
theorem dX12_many_90 : decode cX12_many 90 = .ok (.aload_n 0, 1) := by decide +kernel
theorem dX12_many_91 : decode cX12_many 91 = .ok (.getfield 9, 3) := by decide +kernel
theorem dX12_many_94 : decode cX12_many 94 = .ok (.iconst 5, 1) := by decide +kernel
theorem dX12_many_95 : decode cX12_many 95 = .ok (.iaload, 1) := by decide +kernel
theorem dX12_many_96 : decode cX12_many 96 = .ok (.ireturn, 1) := by decide +kernel
theorem dX12_many_97 : decode cX12_many 97 = .ok (.aload_n 0, 1) := by decide +kernel
theorem dX12_many_98 : decode cX12_many 98 = .ok (.invokevirtual 107, 3) := by decide +kernel
theorem dX12_many_101 : decode cX12_many 101 = .ok (.invokestatic 110, 3) := by decide +kernel
theorem dX12_many_104 : decode cX12_many 104 = .ok (.ireturn, 1) := by decide +kernel
theorem dX12_many_105 : decode cX12_many 105 = .ok (.aload_n 0, 1) := by decide +kernel
theorem dX12_many_106 : decode cX12_many 106 = .ok (.getfield 9, 3) := by decide +kernel
theorem dX12_many_109 : decode cX12_many 109 = .ok (.bipush 6, 2) := by decide +kernel
theorem dX12_many_111 : decode cX12_many 111 = .ok (.iaload, 1) := by decide +kernel
theorem dX12_many_112 : decode cX12_many 112 = .ok (.ireturn, 1) := by decide +kernel
theorem dX12_many_113 : decode cX12_many 113 = .ok (.aload_n 0, 1) := by decide +kernel
theorem dX12_many_114 : decode cX12_many 114 = .ok (.getfield 9, 3) := by decide +kernel
theorem dX12_many_117 : decode cX12_many 117 = .ok (.bipush 7, 2) := by decide +kernel
theorem dX12_many_119 : decode cX12_many 119 = .ok (.iaload, 1) := by decide +kernel
theorem dX12_many_120 : decode cX12_many 120 = .ok (.ireturn, 1) := by decide +kernel
theorem dX12_many_121 : decode cX12_many 121 = .ok (.aload_n 0, 1) := by decide +kernel
theorem dX12_many_122 : decode cX12_many 122 = .ok (.getfield 9, 3) := by decide +kernel
theorem dX12_many_125 : decode cX12_many 125 = .ok (.bipush 8, 2) := by decide +kernel
theorem dX12_many_127 : decode cX12_many 127 = .ok (.iaload, 1) := by decide +kernel
theorem dX12_many_128 : decode cX12_many 128 = .ok (.ireturn, 1) := by decide +kernel
theorem dX12_many_129 : decode cX12_many 129 = .ok (.aload_n 0, 1) := by decide +kernel
theorem dX12_many_130 : decode cX12_many 130 = .ok (.iconst (-1), 1) := by decide +kernel
theorem dX12_many_131 : decode cX12_many 131 = .ok (.invokevirtual 127, 3) := by decide +kernel
theorem dX12_many_134 : decode cX12_many 134 = .ok (.ireturn, 1) := by decide +kernel
theorem dX12_many_135 : decode cX12_many 135 = .ok (.aload_n 0, 1) := by decide +kernel
theorem dX12_many_136 : decode cX12_many 136 = .ok (.getfield 9, 3) := by decide +kernel
theorem dX12_many_139 : decode cX12_many 139 = .ok (.bipush 9, 2) := by decide +kernel
theorem dX12_many_141 : decode cX12_many 141 = .ok (.iaload, 1) := by decide +kernel
theorem dX12_many_142 : decode cX12_many 142 = .ok (.ireturn, 1) := by decide +kernel
theorem dX12_many_143 : decode cX12_many 143 = .ok (.iconst 0, 1) := by decide +kernel
theorem dX12_many_144 : decode cX12_many 144 = .ok (.istore_n 2, 1) := by decide +kernel
theorem dX12_many_145 : decode cX12_many 145 = .ok (.iconst 0, 1) := by decide +kernel
theorem dX12_many_146 : decode cX12_many 146 = .ok (.istore_n 3, 1) := by decide +kernel
theorem dX12_many_147 : decode cX12_many 147 = .ok (.iload_n 3, 1) := by decide +kernel
theorem dX12_many_148 : decode cX12_many 148 = .ok (.aload_n 0, 1) := by decide +kernel
theorem dX12_many_149 : decode cX12_many 149 = .ok (.getfield 9, 3) := by decide +kernel
theorem dX12_many_152 : decode cX12_many 152 = .ok (.bipush 9, 2) := by decide +kernel
theorem dX12_many_154 : decode cX12_many 154 = .ok (.iaload, 1) := by decide +kernel
theorem dX12_many_155 : decode cX12_many 155 = .ok (.if_icmp .ge 25, 3) := by decide +kernel
theorem dX12_many_180 : decode cX12_many 180 = .ok (.iload_n 2, 1) := by decide +kernel
theorem dX12_many_181 : decode cX12_many 181 = .ok (.ireturn, 1) := by decide +kernel
theorem dX12_many_158 : decode cX12_many 158 = .ok (.iload_n 2, 1) := by decide +kernel
theorem dX12_many_159 : decode cX12_many 159 = .ok (.aload_n 0, 1) := by decide +kernel
theorem dX12_many_160 : decode cX12_many 160 = .ok (.iload_n 3, 1) := by decide +kernel
theorem dX12_many_161 : decode cX12_many 161 = .ok (.invokevirtual 305, 3) := by decide +kernel
theorem dX12_many_164 : decode cX12_many 164 = .ok (.ifCond .eq 7, 3) := by decide +kernel
theorem dX12_many_167 : decode cX12_many 167 = .ok (.iconst 1, 1) := by decide +kernel
theorem dX12_many_168 : decode cX12_many 168 = .ok (.goto 4, 3) := by decide +kernel
theorem dX12_many_172 : decode cX12_many 172 = .ok (.iadd, 1) := by decide +kernel
theorem dX12_many_173 : decode cX12_many 173 = .ok (.istore_n 2, 1) := by decide +kernel
theorem dX12_many_174 : decode cX12_many 174 = .ok (.iinc 3 1, 3) := by decide +kernel
theorem dX12_many_177 : decode cX12_many 177 = .ok (.goto (-30), 3) := by decide +kernel
theorem dX12_many_171 : decode cX12_many 171 = .ok (.iconst 0, 1) := by decide +kernel
theorem dX12_many_182 : decode cX12_many 182 = .ok (.aload_n 0, 1) := by decide +kernel
theorem dX12_many_183 : decode cX12_many 183 = .ok (.getfield 9, 3) := by decide +kernel
theorem dX12_many_186 : decode cX12_many 186 = .ok (.bipush 10, 2) := by decide +kernel
theorem dX12_many_188 : decode cX12_many 188 = .ok (.iaload, 1) := by decide +kernel
theorem dX12_many_189 : decode cX12_many 189 = .ok (.ireturn, 1) := by decide +kernel
theorem dX12_many_190 : decode cX12_many 190 = .ok (.aload_n 0, 1) := by decide +kernel
theorem dX12_many_191 : decode cX12_many 191 = .ok (.getfield 9, 3) := by decide +kernel
theorem dX12_many_194 : decode cX12_many 194 = .ok (.bipush 11, 2) := by decide +kernel
theorem dX12_many_196 : decode cX12_many 196 = .ok (.iaload, 1) := by decide +kernel
theorem dX12_many_197 : decode cX12_many 197 = .ok (.ireturn, 1) := by decide +kernel
theorem dX12_many_198 : decode cX12_many 198 = .ok (.aload_n 0, 1) := by decide +kernel
theorem dX12_many_199 : decode cX12_many 199 = .ok (.getfield 327, 3) := by decide +kernel
theorem dX12_many_202 : decode cX12_many 202 = .ok (.ireturn, 1) := by decide +kernel
theorem dX12_many_203 : decode cX12_many 203 = .ok (.aload_n 0, 1) := by decide +kernel
theorem dX12_many_204 : decode cX12_many 204 = .ok (.getfield 206, 3) := by decide +kernel
theorem m_750 : Cond.fieldLink RX12 206 "InquiryBenchModel" "taped" "I" ∈ BW := List.mem_of_getElem? (i := 750) (by decide +kernel)
theorem gf_X12_206 (hC : CX p s m meth c y0 b0 mL0 rt0 args) (hy0 : y0.cls = RX12) (hK : KK G s) (hP : va_P G.1 vwCl ws H) (q0 : Nat) {fs : List Value} {v : Value} (he : ws[q0]? = some (a, .inr (12, fs))) (hv : fs[4]? = some v) (hdg : decode b0 pc = .ok (.getfield 206, 3)) (kk : W p l e R s m args below meth c H locs cells slots Q (F0 m (pc + 3) ls (v :: rest))) : W p l e R s m args below meth c H locs cells slots Q (F0 m pc ls (.ref a :: rest)) := by
  obtain ⟨hx, hb, hr, hml, hB, hown, hlocks, hnm⟩ := hC
  rw [hy0] at hown
  exact va_get (ci := 12) (C := RX12) (T := TX12) (N := 41) hx hb hB in_X12 hown hK.1 hP q0 he rfl 4 (by decide) (hB _ m_750) (fun _ h => h) hv hdg kk
theorem dX12_many_207 : decode cX12_many 207 = .ok (.ireturn, 1) := by decide +kernel
theorem dX12_many_208 : decode cX12_many 208 = .ok (.aload_n 0, 1) := by decide +kernel
theorem dX12_many_209 : decode cX12_many 209 = .ok (.getfield 351, 3) := by decide +kernel
theorem dX12_many_212 : decode cX12_many 212 = .ok (.ireturn, 1) := by decide +kernel
theorem dX12_many_213 : decode cX12_many 213 = .ok (.iconst (-1), 1) := by decide +kernel
theorem dX12_many_214 : decode cX12_many 214 = .ok (.ireturn, 1) := by decide +kernel
theorem dX12_keep_0 : decode cX12_keep 0 = .ok (.iconst 0, 1) := by decide +kernel
theorem dX12_keep_1 : decode cX12_keep 1 = .ok (.istore_n 1, 1) := by decide +kernel
theorem dX12_keep_2 : decode cX12_keep 2 = .ok (.iload_n 1, 1) := by decide +kernel
theorem dX12_keep_3 : decode cX12_keep 3 = .ok (.sipush 1662, 3) := by decide +kernel
theorem dX12_keep_6 : decode cX12_keep 6 = .ok (.if_icmp .ge 21, 3) := by decide +kernel
theorem dX12_keep_27 : decode cX12_keep 27 = .ok (.aload_n 0, 1) := by decide +kernel
theorem dX12_keep_28 : decode cX12_keep 28 = .ok (.iconst 1, 1) := by decide +kernel
theorem dX12_keep_29 : decode cX12_keep 29 = .ok (.putfield 383, 3) := by decide +kernel
theorem m_1420 : Cond.fieldLink RX12 383 "InquiryBenchModel" "hasKept" "Z" ∈ BW := List.mem_of_getElem? (i := 1420) (by decide +kernel)
theorem pf_X12_383 (hC : CX p s m meth c y0 b0 mL0 rt0 args) (hy0 : y0.cls = RX12) (hK : KK G s) (hP : va_P G.1 vwCl ws H) (hD : va_D A ws) (hS : va_S A H0 H locs) (q0 : Nat) {fs : List Value} {v : Value} {ws' : va_W} (he : ws[q0]? = some (a, .inr (12, fs))) (hl : 2 < fs.length) (hws : ws.set q0 (a, .inr (12, fs.set 2 v)) = ws') (hn : narrow .boolean v = v) (hfit : fits .boolean v = true) (hdg : decode b0 pc = .ok (.putfield 383, 3)) (kk : ∀ (H1 : Heap) (locs1 : List Loc), va_P G.1 vwCl ws' H1 → va_D A ws' → va_S A H0 H1 locs1 → W p l e R s m args below meth c H1 locs1 cells slots Q (F0 m (pc + 3) ls rest)) : W p l e R s m args below meth c H locs cells slots Q (F0 m pc ls (v :: .ref a :: rest)) := by
  obtain ⟨hx, hb, hr, hml, hB, hown, hlocks, hnm⟩ := hC
  rw [hy0] at hown
  subst hws
  exact va_put (ci := 12) (ty := .boolean) (C := RX12) (T := TX12) (N := 41) hx hb hB in_X12 tyX12 tyX12_ok nmX12 hown hK.1 hP hD hS q0 he rfl 2 (by decide) (hB _ m_1420) (fun _ h => h) rfl (by decide +kernel) hn hfit hl hdg kk
theorem dX12_keep_32 : decode cX12_keep 32 = .ok (.iconst 1, 1) := by decide +kernel
theorem dX12_keep_33 : decode cX12_keep 33 = .ok (.ireturn, 1) := by decide +kernel
theorem dX12_keep_9 : decode cX12_keep 9 = .ok (.aload_n 0, 1) := by decide +kernel
theorem dX12_keep_10 : decode cX12_keep 10 = .ok (.getfield 13, 3) := by decide +kernel
theorem m_188 : Cond.fieldLink RX12 13 "InquiryBenchModel" "kept" "[I" ∈ BW := List.mem_of_getElem? (i := 188) (by decide +kernel)
theorem gf_X12_13 (hC : CX p s m meth c y0 b0 mL0 rt0 args) (hy0 : y0.cls = RX12) (hK : KK G s) (hP : va_P G.1 vwCl ws H) (q0 : Nat) {fs : List Value} {v : Value} (he : ws[q0]? = some (a, .inr (12, fs))) (hv : fs[1]? = some v) (hdg : decode b0 pc = .ok (.getfield 13, 3)) (kk : W p l e R s m args below meth c H locs cells slots Q (F0 m (pc + 3) ls (v :: rest))) : W p l e R s m args below meth c H locs cells slots Q (F0 m pc ls (.ref a :: rest)) := by
  obtain ⟨hx, hb, hr, hml, hB, hown, hlocks, hnm⟩ := hC
  rw [hy0] at hown
  exact va_get (ci := 12) (C := RX12) (T := TX12) (N := 41) hx hb hB in_X12 hown hK.1 hP q0 he rfl 1 (by decide) (hB _ m_188) (fun _ h => h) hv hdg kk
theorem dX12_keep_13 : decode cX12_keep 13 = .ok (.iload_n 1, 1) := by decide +kernel
theorem dX12_keep_14 : decode cX12_keep 14 = .ok (.aload_n 0, 1) := by decide +kernel
theorem dX12_keep_15 : decode cX12_keep 15 = .ok (.getfield 9, 3) := by decide +kernel
theorem dX12_keep_18 : decode cX12_keep 18 = .ok (.iload_n 1, 1) := by decide +kernel
theorem dX12_keep_19 : decode cX12_keep 19 = .ok (.iaload, 1) := by decide +kernel
theorem dX12_keep_20 : decode cX12_keep 20 = .ok (.iastore, 1) := by decide +kernel
theorem dX12_keep_21 : decode cX12_keep 21 = .ok (.iinc 1 1, 3) := by decide +kernel
theorem dX12_keep_24 : decode cX12_keep 24 = .ok (.goto (-22), 3) := by decide +kernel
theorem dX12_again_0 : decode cX12_again 0 = .ok (.aload_n 0, 1) := by decide +kernel
theorem dX12_again_1 : decode cX12_again 1 = .ok (.getfield 383, 3) := by decide +kernel
theorem gf_X12_383 (hC : CX p s m meth c y0 b0 mL0 rt0 args) (hy0 : y0.cls = RX12) (hK : KK G s) (hP : va_P G.1 vwCl ws H) (q0 : Nat) {fs : List Value} {v : Value} (he : ws[q0]? = some (a, .inr (12, fs))) (hv : fs[2]? = some v) (hdg : decode b0 pc = .ok (.getfield 383, 3)) (kk : W p l e R s m args below meth c H locs cells slots Q (F0 m (pc + 3) ls (v :: rest))) : W p l e R s m args below meth c H locs cells slots Q (F0 m pc ls (.ref a :: rest)) := by
  obtain ⟨hx, hb, hr, hml, hB, hown, hlocks, hnm⟩ := hC
  rw [hy0] at hown
  exact va_get (ci := 12) (C := RX12) (T := TX12) (N := 41) hx hb hB in_X12 hown hK.1 hP q0 he rfl 2 (by decide) (hB _ m_1420) (fun _ h => h) hv hdg kk
theorem dX12_again_4 : decode cX12_again 4 = .ok (.ifCond .ne 6, 3) := by decide +kernel
theorem dX12_again_7 : decode cX12_again 7 = .ok (.bipush (-3), 2) := by decide +kernel
theorem dX12_again_9 : decode cX12_again 9 = .ok (.ireturn, 1) := by decide +kernel
theorem dX12_again_10 : decode cX12_again 10 = .ok (.iconst 0, 1) := by decide +kernel
theorem dX12_again_11 : decode cX12_again 11 = .ok (.istore_n 1, 1) := by decide +kernel
theorem dX12_again_12 : decode cX12_again 12 = .ok (.iload_n 1, 1) := by decide +kernel
theorem dX12_again_13 : decode cX12_again 13 = .ok (.sipush 1662, 3) := by decide +kernel
theorem dX12_again_16 : decode cX12_again 16 = .ok (.if_icmp .ge 21, 3) := by decide +kernel
theorem dX12_again_37 : decode cX12_again 37 = .ok (.iconst 1, 1) := by decide +kernel
theorem dX12_again_38 : decode cX12_again 38 = .ok (.ireturn, 1) := by decide +kernel
theorem dX12_again_19 : decode cX12_again 19 = .ok (.aload_n 0, 1) := by decide +kernel
theorem dX12_again_20 : decode cX12_again 20 = .ok (.getfield 9, 3) := by decide +kernel
theorem dX12_again_23 : decode cX12_again 23 = .ok (.iload_n 1, 1) := by decide +kernel
theorem dX12_again_24 : decode cX12_again 24 = .ok (.aload_n 0, 1) := by decide +kernel
theorem dX12_again_25 : decode cX12_again 25 = .ok (.getfield 13, 3) := by decide +kernel
theorem dX12_again_28 : decode cX12_again 28 = .ok (.iload_n 1, 1) := by decide +kernel
theorem dX12_again_29 : decode cX12_again 29 = .ok (.iaload, 1) := by decide +kernel
theorem dX12_again_30 : decode cX12_again 30 = .ok (.iastore, 1) := by decide +kernel
theorem dX12_again_31 : decode cX12_again 31 = .ok (.iinc 1 1, 3) := by decide +kernel
theorem dX12_again_34 : decode cX12_again 34 = .ok (.goto (-22), 3) := by decide +kernel
end WR
set_option maxHeartbeats 4000000 in
set_option maxRecDepth 100000 in
theorem m_kindOn (l : Launch) (G : GG) (h0 : Nat) (jt : Nat) (nw : Nat) (nk : Nat) (mhasKept : Int32) (nt : Nat) (mtaped : Int32) (nr : Nat) (mrowMany : Int32) (mroundOf : Int32) (mroundFrom : Int32) (mouts : Int32) (nm : Nat) (mfromHour : Int32) (mtoHour : Int32) (ns : Nat) (mfrom : Int32) (mto : Int32) (msort : Int32) (misFault : Int32) (mdeep : Int32) (mcoded : Int32) (mlines : Int32) (nl : Nat) (nc : Nat) (nF : Nat) (np : Nat) (ntr : Nat) (nb : Nat) (mbestCost : Int32) (nso : Nat) (nsi : Nat) (nit : Nat) (nsh : Nat) (nsf : Nat) (nss : Nat) (nrc : Nat) (mtraced : Int32) (mdealer : Int32) (mnumber : Int32) (mwhose : Int32) (msize : Int32) (misParted : Int32) (fnw : Nat → Int32) (fnsh : Nat → Int32) (fnsf : Nat → Int32) (hjt : jt < 4) (hN : NI fnw) : MP l G yX12_kindOn cX12_kindOn 4 (some .int) 3 [.ref h0, .int (nI jt)] [(h0, .inr (12, [.ref nw, .ref nk, .int mhasKept, .ref nt, .int mtaped, .ref nr, .int mrowMany, .int mroundOf, .int mroundFrom, .int mouts, .ref nm, .int mfromHour, .int mtoHour, .ref ns, .int mfrom, .int mto, .int msort, .int misFault, .int mdeep, .int mcoded, .int mlines, .ref nl, .ref nc, .ref nF, .ref np, .ref ntr, .ref nb, .int mbestCost, .ref nso, .ref nsi, .ref nit, .ref nsh, .ref nsf, .ref nss, .ref nrc, .int mtraced, .int mdealer, .int mnumber, .int mwhose, .int msize, .int misParted])), (nw, .inl (G.2.1, 1662, .inl fnw)), (nsh, .inl (G.2.1, 4, .inl fnsh)), (nsf, .inl (G.2.1, 4, .inl fnsf))] (fun r : Int32 => r = (-1) ∨ (r = 1 ∧ KO1 (fnsh jt) (fnsf jt) 1 12) ∨ (r = 2 ∧ KO1 (fnsh jt) (fnsf jt) 1 12) ∨ (r = 3 ∧ KO1 (fnsh jt) (fnsf jt) 1 12) ∨ (r = 4 ∧ KO1 (fnsh jt) (fnsf jt) 2 16) ∨ (r = 5 ∧ KO1 (fnsh jt) (fnsf jt) 2 16) ∨ (r = 6 ∧ KO1 (fnsh jt) (fnsf jt) 3 12)) := by
  refine MP.start (by decide +kernel) (Nat.le_of_ble_eq_true rfl) ?_
  intro p e s m below meth c ls hC hK hP hD hl
  have hl : lv_has ls 4 [(0, .ref h0), (1, .int (nI jt))] := hl
  obtain ⟨hx, hb, hr, hml, hB, hown, hlocks, hnm⟩ := id hC
  obtain ⟨kq, hkq, ekq⟩ := NI.nat hN (i := 5) (B := 12) (by decide +kernel) (by decide)
  obtain ⟨k8, hk8, ek8⟩ := NI.nat hN (i := 8) (B := 16) (by decide +kernel) (by decide)
  obtain ⟨k9, hk9, ek9⟩ := NI.nat hN (i := 9) (B := 12) (by decide +kernel) (by decide)
  refine lv_aload_n hx hb dX12_kindOn_0 rfl (lv_at hl 0 rfl) ?_
  refine gf_X12_75 hC rfl hK hP 0 rfl rfl dX12_kindOn_1 ?_
  refine lv_iload_n hx hb dX12_kindOn_4 rfl (lv_at hl 1 rfl) ?_
  refine ald hC hK hP 3 rfl (vp_in_nI (by omega) (by omega)) (k := jt) (nI_clamp (by omega)) (v := fnsf jt) rfl dX12_kindOn_5 ?_
  refine lv_topi (fun x5347 ex5347 => ?_)
  refine lv_istore_n (lv' := [(2, .int x5347), (0, .ref h0), (1, .int (nI jt))]) hx hb dX12_kindOn_6 rfl hl (by decide) rfl (fun ls hl => ?_)
  refine lv_aload_n hx hb dX12_kindOn_7 rfl (lv_at hl 1 rfl) ?_
  refine gf_X12_72 hC rfl hK hP 0 rfl rfl dX12_kindOn_8 ?_
  refine lv_iload_n hx hb dX12_kindOn_11 rfl (lv_at hl 2 rfl) ?_
  refine ald hC hK hP 2 rfl (vp_in_nI (by omega) (by omega)) (k := jt) (nI_clamp (by omega)) (v := fnsh jt) rfl dX12_kindOn_12 ?_
  refine lv_topi (fun x5348 ex5348 => ?_)
  by_cases c_13_5349 : x5348 = 1
  · refine lv_tableIn (tgt := 40) hx hb dX12_kindOn_13 (by rw [c_13_5349]; decide) (by rw [c_13_5349]; decide) (by rw [c_13_5349]; rfl) (by decide) ?_
    refine lv_aload_n hx hb dX12_kindOn_40 rfl (lv_at hl 1 rfl) ?_
    refine lv_iload_n hx hb dX12_kindOn_41 rfl (lv_at hl 0 rfl) ?_
    refine lv_iconst (v := 5) hx hb dX12_kindOn_42 (by decide) ?_
    refine pV hC hK hl hP hD (m_is l G kq h0 x5347 5 nw nk mhasKept nt mtaped nr mrowMany mroundOf mroundFrom mouts nm mfromHour mtoHour ns mfrom mto msort misFault mdeep mcoded mlines nl nc nF np ntr nb mbestCost nso nsi nit nsh nsf nss nrc mtraced mdealer mnumber mwhose msize misParted fnw (by omega) (ekq) (by omega)) si_X12_120 [0, 1] rfl rfl (by decide) rfl rfl rfl rfl rfl (Nat.le_of_ble_eq_true rfl) ⟨Nat.le_of_ble_eq_true rfl, Nat.le_of_ble_eq_true rfl⟩ ⟨by first | exact Nat.le_of_ble_eq_true rfl | exact Nat.zero_le _, by first | exact Nat.le_of_ble_eq_true rfl | exact Nat.zero_le _⟩ dX12_kindOn_43 (fun r5350 hr5350 => ?_)
    rcases hr5350 with ⟨rfl, a5351⟩ | ⟨rfl, a5351⟩
    · refine lv_if_eq (tgt := 73) hx hb dX12_kindOn_46 (by decide) (fun c9 => absurd c9 (by decide)) (fun _ => ?_)
      refine lv_aload_n hx hb dX12_kindOn_49 rfl (lv_at hl 1 rfl) ?_
      refine lv_iload_n hx hb dX12_kindOn_50 rfl (lv_at hl 0 rfl) ?_
      obtain ⟨jn5352, hjn5352, ek5352⟩ := Hs_nat (by omega) a5351
      refine eqi (x1 := nI jn5352) ek5352 ?_
      refine lv_iconst (v := 1) hx hb dX12_kindOn_51 (by decide) ?_
      refine pV hC hK hl hP hD (m_paper l G h0 jn5352 1 nw nk mhasKept nt mtaped nr mrowMany mroundOf mroundFrom mouts nm mfromHour mtoHour ns mfrom mto msort misFault mdeep mcoded mlines nl nc nF np ntr nb mbestCost nso nsi nit nsh nsf nss nrc mtraced mdealer mnumber mwhose msize misParted fnw (by omega) (by omega)) si_X12_88 [0, 1] rfl rfl (by decide) rfl rfl rfl rfl rfl (Nat.le_of_ble_eq_true rfl) ⟨Nat.le_of_ble_eq_true rfl, Nat.le_of_ble_eq_true rfl⟩ ⟨by first | exact Nat.le_of_ble_eq_true rfl | exact Nat.zero_le _, by first | exact Nat.le_of_ble_eq_true rfl | exact Nat.zero_le _⟩ dX12_kindOn_52 (fun r5353 hr5353 => ?_)
      obtain rfl := hr5353
      refine lv_iconst (v := 1) hx hb dX12_kindOn_55 (by decide) ?_
      refine lv_aload_n hx hb dX12_kindOn_56 rfl (lv_at hl 1 rfl) ?_
      refine lv_iload_n hx hb dX12_kindOn_57 rfl (lv_at hl 0 rfl) ?_
      obtain ⟨jn5355, hjn5355, ek5355⟩ := Hs_nat (by omega) a5351
      refine eqi (x1 := nI jn5355) ek5355 ?_
      refine lv_iconst (v := 0) hx hb dX12_kindOn_58 (by decide) ?_
      refine pV hC hK hl hP hD (m_paper l G h0 jn5355 0 nw nk mhasKept nt mtaped nr mrowMany mroundOf mroundFrom mouts nm mfromHour mtoHour ns mfrom mto msort misFault mdeep mcoded mlines nl nc nF np ntr nb mbestCost nso nsi nit nsh nsf nss nrc mtraced mdealer mnumber mwhose msize misParted fnw (by omega) (by omega)) si_X12_88 [0, 1] rfl rfl (by decide) rfl rfl rfl rfl rfl (Nat.le_of_ble_eq_true rfl) ⟨Nat.le_of_ble_eq_true rfl, Nat.le_of_ble_eq_true rfl⟩ ⟨by first | exact Nat.le_of_ble_eq_true rfl | exact Nat.zero_le _, by first | exact Nat.le_of_ble_eq_true rfl | exact Nat.zero_le _⟩ dX12_kindOn_59 (fun r5356 hr5356 => ?_)
      obtain rfl := hr5356
      refine lv_ishl hx hb dX12_kindOn_62 ?_
      refine lv_iconst (v := (-1)) hx hb dX12_kindOn_63 (by decide) ?_
      refine lv_ixor hx hb dX12_kindOn_64 ?_
      refine lv_iand hx hb dX12_kindOn_65 ?_
      refine lv_if_eq (tgt := 73) hx hb dX12_kindOn_66 (by decide) (fun c_66_5358 => ?_) (fun c_66_5358 => ?_)
      · refine lv_iconst (v := 0) hx hb dX12_kindOn_73 (by decide) ?_
        refine lv_istore_n (lv' := [(3, .int 0), (2, .int x5347), (0, .ref h0), (1, .int (nI jt))]) hx hb dX12_kindOn_74 rfl hl (by decide) rfl (fun ls hl => ?_)
        refine lv_aload_n hx hb dX12_kindOn_75 rfl (lv_at hl 2 rfl) ?_
        refine lv_iload_n hx hb dX12_kindOn_76 rfl (lv_at hl 1 rfl) ?_
        refine lv_iconst (v := 5) hx hb dX12_kindOn_77 (by decide) ?_
        refine pV hC hK hl hP hD (m_is l G kq h0 x5347 5 nw nk mhasKept nt mtaped nr mrowMany mroundOf mroundFrom mouts nm mfromHour mtoHour ns mfrom mto msort misFault mdeep mcoded mlines nl nc nF np ntr nb mbestCost nso nsi nit nsh nsf nss nrc mtraced mdealer mnumber mwhose msize misParted fnw (by omega) (ekq) (by omega)) si_X12_120 [0, 1] rfl rfl (by decide) rfl rfl rfl rfl rfl (Nat.le_of_ble_eq_true rfl) ⟨Nat.le_of_ble_eq_true rfl, Nat.le_of_ble_eq_true rfl⟩ ⟨by first | exact Nat.le_of_ble_eq_true rfl | exact Nat.zero_le _, by first | exact Nat.le_of_ble_eq_true rfl | exact Nat.zero_le _⟩ dX12_kindOn_78 (fun r5359 hr5359 => ?_)
        rcases hr5359 with ⟨rfl, a5360⟩ | ⟨rfl, a5360⟩
        · refine lv_if_ne (tgt := 88) hx hb dX12_kindOn_81 (by decide) (fun _ => ?_) (fun c9 => absurd c9 (by decide))
          refine lv_iload_n hx hb dX12_kindOn_88 rfl (lv_at hl 0 rfl) ?_
          refine lv_if_ne (tgt := 96) hx hb dX12_kindOn_89 (by decide) (fun c9 => absurd (by decide) c9) (fun _ => ?_)
          refine lv_iconst (v := 2) hx hb dX12_kindOn_92 (by decide) ?_
          refine lv_goto (tgt := 110) hx hb dX12_kindOn_93 (by decide) ?_
          exact RP (v := 2) hC (Or.inr (Or.inr (Or.inl (⟨rfl, KO1.mk (kk := kq) (by omega) (by omega) ex5348 ex5347 c_13_5349 a5360⟩)))) rfl dX12_kindOn_110
        · exact absurd a5351 a5360
      · refine lv_iconst (v := 1) hx hb dX12_kindOn_69 (by decide) ?_
        refine lv_goto (tgt := 74) hx hb dX12_kindOn_70 (by decide) ?_
        refine lv_istore_n (lv' := [(3, .int 1), (2, .int x5347), (0, .ref h0), (1, .int (nI jt))]) hx hb dX12_kindOn_74 rfl hl (by decide) rfl (fun ls hl => ?_)
        refine lv_aload_n hx hb dX12_kindOn_75 rfl (lv_at hl 2 rfl) ?_
        refine lv_iload_n hx hb dX12_kindOn_76 rfl (lv_at hl 1 rfl) ?_
        refine lv_iconst (v := 5) hx hb dX12_kindOn_77 (by decide) ?_
        refine pV hC hK hl hP hD (m_is l G kq h0 x5347 5 nw nk mhasKept nt mtaped nr mrowMany mroundOf mroundFrom mouts nm mfromHour mtoHour ns mfrom mto msort misFault mdeep mcoded mlines nl nc nF np ntr nb mbestCost nso nsi nit nsh nsf nss nrc mtraced mdealer mnumber mwhose msize misParted fnw (by omega) (ekq) (by omega)) si_X12_120 [0, 1] rfl rfl (by decide) rfl rfl rfl rfl rfl (Nat.le_of_ble_eq_true rfl) ⟨Nat.le_of_ble_eq_true rfl, Nat.le_of_ble_eq_true rfl⟩ ⟨by first | exact Nat.le_of_ble_eq_true rfl | exact Nat.zero_le _, by first | exact Nat.le_of_ble_eq_true rfl | exact Nat.zero_le _⟩ dX12_kindOn_78 (fun r5361 hr5361 => ?_)
        rcases hr5361 with ⟨rfl, a5362⟩ | ⟨rfl, a5362⟩
        · refine lv_if_ne (tgt := 88) hx hb dX12_kindOn_81 (by decide) (fun _ => ?_) (fun c9 => absurd c9 (by decide))
          refine lv_iload_n hx hb dX12_kindOn_88 rfl (lv_at hl 0 rfl) ?_
          refine lv_if_ne (tgt := 96) hx hb dX12_kindOn_89 (by decide) (fun _ => ?_) (fun c9 => absurd c9 (by decide))
          refine lv_aload_n hx hb dX12_kindOn_96 rfl (lv_at hl 2 rfl) ?_
          refine lv_iload_n hx hb dX12_kindOn_97 rfl (lv_at hl 1 rfl) ?_
          obtain ⟨jn5363, hjn5363, ek5363⟩ := Hs_nat (by omega) a5362
          refine eqi (x1 := nI jn5363) ek5363 ?_
          refine lv_iconst (v := 3) hx hb dX12_kindOn_98 (by decide) ?_
          refine pV hC hK hl hP hD (m_paper l G h0 jn5363 3 nw nk mhasKept nt mtaped nr mrowMany mroundOf mroundFrom mouts nm mfromHour mtoHour ns mfrom mto msort misFault mdeep mcoded mlines nl nc nF np ntr nb mbestCost nso nsi nit nsh nsf nss nrc mtraced mdealer mnumber mwhose msize misParted fnw (by omega) (by omega)) si_X12_88 [0, 1] rfl rfl (by decide) rfl rfl rfl rfl rfl (Nat.le_of_ble_eq_true rfl) ⟨Nat.le_of_ble_eq_true rfl, Nat.le_of_ble_eq_true rfl⟩ ⟨by first | exact Nat.le_of_ble_eq_true rfl | exact Nat.zero_le _, by first | exact Nat.le_of_ble_eq_true rfl | exact Nat.zero_le _⟩ dX12_kindOn_99 (fun r5364 hr5364 => ?_)
          obtain rfl := hr5364
          refine lv_if_le (tgt := 109) hx hb dX12_kindOn_102 (by decide) (fun c_102_5366 => ?_) (fun c_102_5366 => ?_)
          · refine lv_iconst (v := 1) hx hb dX12_kindOn_109 (by decide) ?_
            exact RP (v := 1) hC (Or.inr (Or.inl (⟨rfl, KO1.mk (kk := kq) (by omega) (by omega) ex5348 ex5347 c_13_5349 a5362⟩))) rfl dX12_kindOn_110
          · refine lv_iconst (v := 3) hx hb dX12_kindOn_105 (by decide) ?_
            refine lv_goto (tgt := 110) hx hb dX12_kindOn_106 (by decide) ?_
            exact RP (v := 3) hC (Or.inr (Or.inr (Or.inr (Or.inl (⟨rfl, KO1.mk (kk := kq) (by omega) (by omega) ex5348 ex5347 c_13_5349 a5362⟩))))) rfl dX12_kindOn_110
        · exact absurd a5351 a5362
    · refine lv_if_eq (tgt := 73) hx hb dX12_kindOn_46 (by decide) (fun _ => ?_) (fun c9 => absurd (by decide) c9)
      refine lv_iconst (v := 0) hx hb dX12_kindOn_73 (by decide) ?_
      refine lv_istore_n (lv' := [(3, .int 0), (2, .int x5347), (0, .ref h0), (1, .int (nI jt))]) hx hb dX12_kindOn_74 rfl hl (by decide) rfl (fun ls hl => ?_)
      refine lv_aload_n hx hb dX12_kindOn_75 rfl (lv_at hl 2 rfl) ?_
      refine lv_iload_n hx hb dX12_kindOn_76 rfl (lv_at hl 1 rfl) ?_
      refine lv_iconst (v := 5) hx hb dX12_kindOn_77 (by decide) ?_
      refine pV hC hK hl hP hD (m_is l G kq h0 x5347 5 nw nk mhasKept nt mtaped nr mrowMany mroundOf mroundFrom mouts nm mfromHour mtoHour ns mfrom mto msort misFault mdeep mcoded mlines nl nc nF np ntr nb mbestCost nso nsi nit nsh nsf nss nrc mtraced mdealer mnumber mwhose msize misParted fnw (by omega) (ekq) (by omega)) si_X12_120 [0, 1] rfl rfl (by decide) rfl rfl rfl rfl rfl (Nat.le_of_ble_eq_true rfl) ⟨Nat.le_of_ble_eq_true rfl, Nat.le_of_ble_eq_true rfl⟩ ⟨by first | exact Nat.le_of_ble_eq_true rfl | exact Nat.zero_le _, by first | exact Nat.le_of_ble_eq_true rfl | exact Nat.zero_le _⟩ dX12_kindOn_78 (fun r5367 hr5367 => ?_)
      rcases hr5367 with ⟨rfl, a5368⟩ | ⟨rfl, a5368⟩
      · exact absurd a5368 a5351
      · refine lv_if_ne (tgt := 88) hx hb dX12_kindOn_81 (by decide) (fun c9 => absurd (by decide) c9) (fun _ => ?_)
        refine lv_iconst (v := (-1)) hx hb dX12_kindOn_84 (by decide) ?_
        refine lv_goto (tgt := 110) hx hb dX12_kindOn_85 (by decide) ?_
        exact RP (v := (-1)) hC (Or.inl (rfl)) rfl dX12_kindOn_110
  by_cases c_13_5369 : x5348 = 2
  · refine lv_tableIn (tgt := 111) hx hb dX12_kindOn_13 (by rw [c_13_5369]; decide) (by rw [c_13_5369]; decide) (by rw [c_13_5369]; rfl) (by decide) ?_
    refine lv_aload_n hx hb dX12_kindOn_111 rfl (lv_at hl 1 rfl) ?_
    refine lv_iload_n hx hb dX12_kindOn_112 rfl (lv_at hl 0 rfl) ?_
    refine lv_bipush (v := 8) hx hb dX12_kindOn_113 (by decide) ?_
    refine pV hC hK hl hP hD (m_is l G k8 h0 x5347 8 nw nk mhasKept nt mtaped nr mrowMany mroundOf mroundFrom mouts nm mfromHour mtoHour ns mfrom mto msort misFault mdeep mcoded mlines nl nc nF np ntr nb mbestCost nso nsi nit nsh nsf nss nrc mtraced mdealer mnumber mwhose msize misParted fnw (by omega) (ek8) (by omega)) si_X12_120 [0, 1] rfl rfl (by decide) rfl rfl rfl rfl rfl (Nat.le_of_ble_eq_true rfl) ⟨Nat.le_of_ble_eq_true rfl, Nat.le_of_ble_eq_true rfl⟩ ⟨by first | exact Nat.le_of_ble_eq_true rfl | exact Nat.zero_le _, by first | exact Nat.le_of_ble_eq_true rfl | exact Nat.zero_le _⟩ dX12_kindOn_115 (fun r5370 hr5370 => ?_)
    rcases hr5370 with ⟨rfl, a5371⟩ | ⟨rfl, a5371⟩
    · refine lv_if_ne (tgt := 125) hx hb dX12_kindOn_118 (by decide) (fun _ => ?_) (fun c9 => absurd c9 (by decide))
      refine lv_aload_n hx hb dX12_kindOn_125 rfl (lv_at hl 1 rfl) ?_
      refine lv_iload_n hx hb dX12_kindOn_126 rfl (lv_at hl 0 rfl) ?_
      obtain ⟨jn5372, hjn5372, ek5372⟩ := Hs_nat (by omega) a5371
      refine eqi (x1 := nI jn5372) ek5372 ?_
      refine lv_bipush (v := 6) hx hb dX12_kindOn_127 (by decide) ?_
      refine pV hC hK hl hP hD (m_saying l G h0 jn5372 6 nw nk mhasKept nt mtaped nr mrowMany mroundOf mroundFrom mouts nm mfromHour mtoHour ns mfrom mto msort misFault mdeep mcoded mlines nl nc nF np ntr nb mbestCost nso nsi nit nsh nsf nss nrc mtraced mdealer mnumber mwhose msize misParted fnw (by omega) (by omega)) si_X12_114 [0, 1] rfl rfl (by decide) rfl rfl rfl rfl rfl (Nat.le_of_ble_eq_true rfl) ⟨Nat.le_of_ble_eq_true rfl, Nat.le_of_ble_eq_true rfl⟩ ⟨by first | exact Nat.le_of_ble_eq_true rfl | exact Nat.zero_le _, by first | exact Nat.le_of_ble_eq_true rfl | exact Nat.zero_le _⟩ dX12_kindOn_129 (fun r5373 hr5373 => ?_)
      obtain rfl := hr5373
      refine lv_if_ge (tgt := 139) hx hb dX12_kindOn_132 (by decide) (fun c_132_5375 => ?_) (fun c_132_5375 => ?_)
      · refine lv_iconst (v := 4) hx hb dX12_kindOn_139 (by decide) ?_
        exact RP (v := 4) hC (Or.inr (Or.inr (Or.inr (Or.inr (Or.inl (⟨rfl, KO1.mk (kk := k8) (by omega) (by omega) ex5348 ex5347 c_13_5369 a5371⟩)))))) rfl dX12_kindOn_140
      · refine lv_iconst (v := 5) hx hb dX12_kindOn_135 (by decide) ?_
        refine lv_goto (tgt := 140) hx hb dX12_kindOn_136 (by decide) ?_
        exact RP (v := 5) hC (Or.inr (Or.inr (Or.inr (Or.inr (Or.inr (Or.inl (⟨rfl, KO1.mk (kk := k8) (by omega) (by omega) ex5348 ex5347 c_13_5369 a5371⟩))))))) rfl dX12_kindOn_140
    · refine lv_if_ne (tgt := 125) hx hb dX12_kindOn_118 (by decide) (fun c9 => absurd (by decide) c9) (fun _ => ?_)
      refine lv_iconst (v := (-1)) hx hb dX12_kindOn_121 (by decide) ?_
      refine lv_goto (tgt := 140) hx hb dX12_kindOn_122 (by decide) ?_
      exact RP (v := (-1)) hC (Or.inl (rfl)) rfl dX12_kindOn_140
  by_cases c_13_5376 : x5348 = 3
  · refine lv_tableIn (tgt := 141) hx hb dX12_kindOn_13 (by rw [c_13_5376]; decide) (by rw [c_13_5376]; decide) (by rw [c_13_5376]; rfl) (by decide) ?_
    refine lv_aload_n hx hb dX12_kindOn_141 rfl (lv_at hl 1 rfl) ?_
    refine lv_iload_n hx hb dX12_kindOn_142 rfl (lv_at hl 0 rfl) ?_
    refine lv_bipush (v := 9) hx hb dX12_kindOn_143 (by decide) ?_
    refine pV hC hK hl hP hD (m_is l G k9 h0 x5347 9 nw nk mhasKept nt mtaped nr mrowMany mroundOf mroundFrom mouts nm mfromHour mtoHour ns mfrom mto msort misFault mdeep mcoded mlines nl nc nF np ntr nb mbestCost nso nsi nit nsh nsf nss nrc mtraced mdealer mnumber mwhose msize misParted fnw (by omega) (ek9) (by omega)) si_X12_120 [0, 1] rfl rfl (by decide) rfl rfl rfl rfl rfl (Nat.le_of_ble_eq_true rfl) ⟨Nat.le_of_ble_eq_true rfl, Nat.le_of_ble_eq_true rfl⟩ ⟨by first | exact Nat.le_of_ble_eq_true rfl | exact Nat.zero_le _, by first | exact Nat.le_of_ble_eq_true rfl | exact Nat.zero_le _⟩ dX12_kindOn_145 (fun r5377 hr5377 => ?_)
    rcases hr5377 with ⟨rfl, a5378⟩ | ⟨rfl, a5378⟩
    · refine lv_if_eq (tgt := 156) hx hb dX12_kindOn_148 (by decide) (fun c9 => absurd c9 (by decide)) (fun _ => ?_)
      refine lv_bipush (v := 6) hx hb dX12_kindOn_151 (by decide) ?_
      refine lv_goto (tgt := 157) hx hb dX12_kindOn_153 (by decide) ?_
      exact RP (v := 6) hC (Or.inr (Or.inr (Or.inr (Or.inr (Or.inr (Or.inr (⟨rfl, KO1.mk (kk := k9) (by omega) (by omega) ex5348 ex5347 c_13_5376 a5378⟩))))))) rfl dX12_kindOn_157
    · refine lv_if_eq (tgt := 156) hx hb dX12_kindOn_148 (by decide) (fun _ => ?_) (fun c9 => absurd (by decide) c9)
      refine lv_iconst (v := (-1)) hx hb dX12_kindOn_156 (by decide) ?_
      exact RP (v := (-1)) hC (Or.inl (rfl)) rfl dX12_kindOn_157
  refine lv_tableOut (tgt := 158) hx hb dX12_kindOn_13 (by have q9 := sw_1_3 (x := x5348); simp only [c_13_5349, c_13_5369, c_13_5376, not_false_eq_true, true_implies] at q9; exact q9) (by decide) ?_
  refine lv_iconst (v := (-1)) hx hb dX12_kindOn_158 (by decide) ?_
  exact RP (v := (-1)) hC (Or.inl (rfl)) rfl dX12_kindOn_159
set_option maxHeartbeats 4000000 in
set_option maxRecDepth 100000 in
theorem m_above0 (l : Launch) (G : GG) : MP l G yX12_above cX12_above 1 (some .int) 1 [.int 0] [] (fun r : Int32 => r = (-1)) := by
  refine MP.start (by decide +kernel) (Nat.le_of_ble_eq_true rfl) ?_
  intro p e s m below meth c ls hC hK hP hD hl
  have hl : lv_has ls 1 [(0, .int 0)] := hl
  obtain ⟨hx, hb, hr, hml, hB, hown, hlocks, hnm⟩ := id hC
  refine lv_iload_n hx hb dX12_above_0 rfl (lv_at hl 0 rfl) ?_
  refine lv_iconst (v := 3) hx hb dX12_above_1 (by decide) ?_
  refine lv_icmp_ne (tgt := 9) hx hb dX12_above_2 (by decide) (fun _ => ?_) (fun c9 => absurd c9 (by decide))
  refine lv_iload_n hx hb dX12_above_9 rfl (lv_at hl 0 rfl) ?_
  refine lv_iconst (v := 5) hx hb dX12_above_10 (by decide) ?_
  refine lv_icmp_ne (tgt := 18) hx hb dX12_above_11 (by decide) (fun _ => ?_) (fun c9 => absurd c9 (by decide))
  refine lv_iload_n hx hb dX12_above_18 rfl (lv_at hl 0 rfl) ?_
  refine lv_if_ne (tgt := 26) hx hb dX12_above_19 (by decide) (fun c9 => absurd (by decide) c9) (fun _ => ?_)
  refine lv_iconst (v := (-1)) hx hb dX12_above_22 (by decide) ?_
  refine lv_goto (tgt := 27) hx hb dX12_above_23 (by decide) ?_
  exact RP (v := (-1)) hC (rfl) rfl dX12_above_27
set_option maxHeartbeats 4000000 in
set_option maxRecDepth 100000 in
theorem m_above1 (l : Launch) (G : GG) : MP l G yX12_above cX12_above 1 (some .int) 1 [.int 1] [] (fun r : Int32 => r = 0) := by
  refine MP.start (by decide +kernel) (Nat.le_of_ble_eq_true rfl) ?_
  intro p e s m below meth c ls hC hK hP hD hl
  have hl : lv_has ls 1 [(0, .int 1)] := hl
  obtain ⟨hx, hb, hr, hml, hB, hown, hlocks, hnm⟩ := id hC
  refine lv_iload_n hx hb dX12_above_0 rfl (lv_at hl 0 rfl) ?_
  refine lv_iconst (v := 3) hx hb dX12_above_1 (by decide) ?_
  refine lv_icmp_ne (tgt := 9) hx hb dX12_above_2 (by decide) (fun _ => ?_) (fun c9 => absurd c9 (by decide))
  refine lv_iload_n hx hb dX12_above_9 rfl (lv_at hl 0 rfl) ?_
  refine lv_iconst (v := 5) hx hb dX12_above_10 (by decide) ?_
  refine lv_icmp_ne (tgt := 18) hx hb dX12_above_11 (by decide) (fun _ => ?_) (fun c9 => absurd c9 (by decide))
  refine lv_iload_n hx hb dX12_above_18 rfl (lv_at hl 0 rfl) ?_
  refine lv_if_ne (tgt := 26) hx hb dX12_above_19 (by decide) (fun _ => ?_) (fun c9 => absurd c9 (by decide))
  refine lv_iconst (v := 0) hx hb dX12_above_26 (by decide) ?_
  exact RP (v := 0) hC (rfl) rfl dX12_above_27
set_option maxHeartbeats 4000000 in
set_option maxRecDepth 100000 in
theorem m_above2 (l : Launch) (G : GG) : MP l G yX12_above cX12_above 1 (some .int) 1 [.int 2] [] (fun r : Int32 => r = 0) := by
  refine MP.start (by decide +kernel) (Nat.le_of_ble_eq_true rfl) ?_
  intro p e s m below meth c ls hC hK hP hD hl
  have hl : lv_has ls 1 [(0, .int 2)] := hl
  obtain ⟨hx, hb, hr, hml, hB, hown, hlocks, hnm⟩ := id hC
  refine lv_iload_n hx hb dX12_above_0 rfl (lv_at hl 0 rfl) ?_
  refine lv_iconst (v := 3) hx hb dX12_above_1 (by decide) ?_
  refine lv_icmp_ne (tgt := 9) hx hb dX12_above_2 (by decide) (fun _ => ?_) (fun c9 => absurd c9 (by decide))
  refine lv_iload_n hx hb dX12_above_9 rfl (lv_at hl 0 rfl) ?_
  refine lv_iconst (v := 5) hx hb dX12_above_10 (by decide) ?_
  refine lv_icmp_ne (tgt := 18) hx hb dX12_above_11 (by decide) (fun _ => ?_) (fun c9 => absurd c9 (by decide))
  refine lv_iload_n hx hb dX12_above_18 rfl (lv_at hl 0 rfl) ?_
  refine lv_if_ne (tgt := 26) hx hb dX12_above_19 (by decide) (fun _ => ?_) (fun c9 => absurd c9 (by decide))
  refine lv_iconst (v := 0) hx hb dX12_above_26 (by decide) ?_
  exact RP (v := 0) hC (rfl) rfl dX12_above_27
set_option maxHeartbeats 4000000 in
set_option maxRecDepth 100000 in
theorem m_above3 (l : Launch) (G : GG) : MP l G yX12_above cX12_above 1 (some .int) 1 [.int 3] [] (fun r : Int32 => r = 1) := by
  refine MP.start (by decide +kernel) (Nat.le_of_ble_eq_true rfl) ?_
  intro p e s m below meth c ls hC hK hP hD hl
  have hl : lv_has ls 1 [(0, .int 3)] := hl
  obtain ⟨hx, hb, hr, hml, hB, hown, hlocks, hnm⟩ := id hC
  refine lv_iload_n hx hb dX12_above_0 rfl (lv_at hl 0 rfl) ?_
  refine lv_iconst (v := 3) hx hb dX12_above_1 (by decide) ?_
  refine lv_icmp_ne (tgt := 9) hx hb dX12_above_2 (by decide) (fun c9 => absurd (by decide) c9) (fun _ => ?_)
  refine lv_iconst (v := 1) hx hb dX12_above_5 (by decide) ?_
  refine lv_goto (tgt := 27) hx hb dX12_above_6 (by decide) ?_
  exact RP (v := 1) hC (rfl) rfl dX12_above_27
set_option maxHeartbeats 4000000 in
set_option maxRecDepth 100000 in
theorem m_above4 (l : Launch) (G : GG) : MP l G yX12_above cX12_above 1 (some .int) 1 [.int 4] [] (fun r : Int32 => r = 0) := by
  refine MP.start (by decide +kernel) (Nat.le_of_ble_eq_true rfl) ?_
  intro p e s m below meth c ls hC hK hP hD hl
  have hl : lv_has ls 1 [(0, .int 4)] := hl
  obtain ⟨hx, hb, hr, hml, hB, hown, hlocks, hnm⟩ := id hC
  refine lv_iload_n hx hb dX12_above_0 rfl (lv_at hl 0 rfl) ?_
  refine lv_iconst (v := 3) hx hb dX12_above_1 (by decide) ?_
  refine lv_icmp_ne (tgt := 9) hx hb dX12_above_2 (by decide) (fun _ => ?_) (fun c9 => absurd c9 (by decide))
  refine lv_iload_n hx hb dX12_above_9 rfl (lv_at hl 0 rfl) ?_
  refine lv_iconst (v := 5) hx hb dX12_above_10 (by decide) ?_
  refine lv_icmp_ne (tgt := 18) hx hb dX12_above_11 (by decide) (fun _ => ?_) (fun c9 => absurd c9 (by decide))
  refine lv_iload_n hx hb dX12_above_18 rfl (lv_at hl 0 rfl) ?_
  refine lv_if_ne (tgt := 26) hx hb dX12_above_19 (by decide) (fun _ => ?_) (fun c9 => absurd c9 (by decide))
  refine lv_iconst (v := 0) hx hb dX12_above_26 (by decide) ?_
  exact RP (v := 0) hC (rfl) rfl dX12_above_27
set_option maxHeartbeats 4000000 in
set_option maxRecDepth 100000 in
theorem m_above5 (l : Launch) (G : GG) : MP l G yX12_above cX12_above 1 (some .int) 1 [.int 5] [] (fun r : Int32 => r = 4) := by
  refine MP.start (by decide +kernel) (Nat.le_of_ble_eq_true rfl) ?_
  intro p e s m below meth c ls hC hK hP hD hl
  have hl : lv_has ls 1 [(0, .int 5)] := hl
  obtain ⟨hx, hb, hr, hml, hB, hown, hlocks, hnm⟩ := id hC
  refine lv_iload_n hx hb dX12_above_0 rfl (lv_at hl 0 rfl) ?_
  refine lv_iconst (v := 3) hx hb dX12_above_1 (by decide) ?_
  refine lv_icmp_ne (tgt := 9) hx hb dX12_above_2 (by decide) (fun _ => ?_) (fun c9 => absurd c9 (by decide))
  refine lv_iload_n hx hb dX12_above_9 rfl (lv_at hl 0 rfl) ?_
  refine lv_iconst (v := 5) hx hb dX12_above_10 (by decide) ?_
  refine lv_icmp_ne (tgt := 18) hx hb dX12_above_11 (by decide) (fun c9 => absurd (by decide) c9) (fun _ => ?_)
  refine lv_iconst (v := 4) hx hb dX12_above_14 (by decide) ?_
  refine lv_goto (tgt := 27) hx hb dX12_above_15 (by decide) ?_
  exact RP (v := 4) hC (rfl) rfl dX12_above_27
set_option maxHeartbeats 4000000 in
set_option maxRecDepth 100000 in
theorem m_above6 (l : Launch) (G : GG) : MP l G yX12_above cX12_above 1 (some .int) 1 [.int 6] [] (fun r : Int32 => r = 0) := by
  refine MP.start (by decide +kernel) (Nat.le_of_ble_eq_true rfl) ?_
  intro p e s m below meth c ls hC hK hP hD hl
  have hl : lv_has ls 1 [(0, .int 6)] := hl
  obtain ⟨hx, hb, hr, hml, hB, hown, hlocks, hnm⟩ := id hC
  refine lv_iload_n hx hb dX12_above_0 rfl (lv_at hl 0 rfl) ?_
  refine lv_iconst (v := 3) hx hb dX12_above_1 (by decide) ?_
  refine lv_icmp_ne (tgt := 9) hx hb dX12_above_2 (by decide) (fun _ => ?_) (fun c9 => absurd c9 (by decide))
  refine lv_iload_n hx hb dX12_above_9 rfl (lv_at hl 0 rfl) ?_
  refine lv_iconst (v := 5) hx hb dX12_above_10 (by decide) ?_
  refine lv_icmp_ne (tgt := 18) hx hb dX12_above_11 (by decide) (fun _ => ?_) (fun c9 => absurd c9 (by decide))
  refine lv_iload_n hx hb dX12_above_18 rfl (lv_at hl 0 rfl) ?_
  refine lv_if_ne (tgt := 26) hx hb dX12_above_19 (by decide) (fun _ => ?_) (fun c9 => absurd c9 (by decide))
  refine lv_iconst (v := 0) hx hb dX12_above_26 (by decide) ?_
  exact RP (v := 0) hC (rfl) rfl dX12_above_27
set_option maxHeartbeats 4000000 in
set_option maxRecDepth 100000 in
theorem m_hasOwn00 (l : Launch) (G : GG) : MP l G yX12_hasOwn cX12_hasOwn 2 (some .boolean) 1 [.int 0, .int 0] [] (fun r : Int32 => r = 1) := by
  refine MP.start (by decide +kernel) (Nat.le_of_ble_eq_true rfl) ?_
  intro p e s m below meth c ls hC hK hP hD hl
  have hl : lv_has ls 2 [(0, .int 0), (1, .int 0)] := hl
  obtain ⟨hx, hb, hr, hml, hB, hown, hlocks, hnm⟩ := id hC
  refine lv_iload_n hx hb dX12_hasOwn_0 rfl (lv_at hl 0 rfl) ?_
  refine lv_tableIn (tgt := 40) hx hb dX12_hasOwn_1 (by decide) (by decide) rfl (by decide) ?_
  refine lv_iconst (v := 1) hx hb dX12_hasOwn_40 (by decide) ?_
  exact RP (v := 1) hC (rfl) (by decide +kernel) dX12_hasOwn_41
set_option maxHeartbeats 4000000 in
set_option maxRecDepth 100000 in
theorem m_hasOwn01 (l : Launch) (G : GG) : MP l G yX12_hasOwn cX12_hasOwn 2 (some .boolean) 1 [.int 0, .int 1] [] (fun r : Int32 => r = 1) := by
  refine MP.start (by decide +kernel) (Nat.le_of_ble_eq_true rfl) ?_
  intro p e s m below meth c ls hC hK hP hD hl
  have hl : lv_has ls 2 [(0, .int 0), (1, .int 1)] := hl
  obtain ⟨hx, hb, hr, hml, hB, hown, hlocks, hnm⟩ := id hC
  refine lv_iload_n hx hb dX12_hasOwn_0 rfl (lv_at hl 0 rfl) ?_
  refine lv_tableIn (tgt := 40) hx hb dX12_hasOwn_1 (by decide) (by decide) rfl (by decide) ?_
  refine lv_iconst (v := 1) hx hb dX12_hasOwn_40 (by decide) ?_
  exact RP (v := 1) hC (rfl) (by decide +kernel) dX12_hasOwn_41
set_option maxHeartbeats 4000000 in
set_option maxRecDepth 100000 in
theorem m_hasOwn02 (l : Launch) (G : GG) : MP l G yX12_hasOwn cX12_hasOwn 2 (some .boolean) 1 [.int 0, .int 2] [] (fun r : Int32 => r = 1) := by
  refine MP.start (by decide +kernel) (Nat.le_of_ble_eq_true rfl) ?_
  intro p e s m below meth c ls hC hK hP hD hl
  have hl : lv_has ls 2 [(0, .int 0), (1, .int 2)] := hl
  obtain ⟨hx, hb, hr, hml, hB, hown, hlocks, hnm⟩ := id hC
  refine lv_iload_n hx hb dX12_hasOwn_0 rfl (lv_at hl 0 rfl) ?_
  refine lv_tableIn (tgt := 40) hx hb dX12_hasOwn_1 (by decide) (by decide) rfl (by decide) ?_
  refine lv_iconst (v := 1) hx hb dX12_hasOwn_40 (by decide) ?_
  exact RP (v := 1) hC (rfl) (by decide +kernel) dX12_hasOwn_41
set_option maxHeartbeats 4000000 in
set_option maxRecDepth 100000 in
theorem m_hasOwn03 (l : Launch) (G : GG) : MP l G yX12_hasOwn cX12_hasOwn 2 (some .boolean) 1 [.int 0, .int 3] [] (fun r : Int32 => r = 1) := by
  refine MP.start (by decide +kernel) (Nat.le_of_ble_eq_true rfl) ?_
  intro p e s m below meth c ls hC hK hP hD hl
  have hl : lv_has ls 2 [(0, .int 0), (1, .int 3)] := hl
  obtain ⟨hx, hb, hr, hml, hB, hown, hlocks, hnm⟩ := id hC
  refine lv_iload_n hx hb dX12_hasOwn_0 rfl (lv_at hl 0 rfl) ?_
  refine lv_tableIn (tgt := 40) hx hb dX12_hasOwn_1 (by decide) (by decide) rfl (by decide) ?_
  refine lv_iconst (v := 1) hx hb dX12_hasOwn_40 (by decide) ?_
  exact RP (v := 1) hC (rfl) (by decide +kernel) dX12_hasOwn_41
set_option maxHeartbeats 4000000 in
set_option maxRecDepth 100000 in
theorem m_hasOwn10 (l : Launch) (G : GG) : MP l G yX12_hasOwn cX12_hasOwn 2 (some .boolean) 1 [.int 1, .int 0] [] (fun r : Int32 => r = 0) := by
  refine MP.start (by decide +kernel) (Nat.le_of_ble_eq_true rfl) ?_
  intro p e s m below meth c ls hC hK hP hD hl
  have hl : lv_has ls 2 [(0, .int 1), (1, .int 0)] := hl
  obtain ⟨hx, hb, hr, hml, hB, hown, hlocks, hnm⟩ := id hC
  refine lv_iload_n hx hb dX12_hasOwn_0 rfl (lv_at hl 0 rfl) ?_
  refine lv_tableIn (tgt := 42) hx hb dX12_hasOwn_1 (by decide) (by decide) rfl (by decide) ?_
  refine lv_iload_n hx hb dX12_hasOwn_42 rfl (lv_at hl 1 rfl) ?_
  refine lv_iconst (v := 1) hx hb dX12_hasOwn_43 (by decide) ?_
  refine lv_icmp_ne (tgt := 51) hx hb dX12_hasOwn_44 (by decide) (fun _ => ?_) (fun c9 => absurd c9 (by decide))
  refine lv_iconst (v := 0) hx hb dX12_hasOwn_51 (by decide) ?_
  exact RP (v := 0) hC (rfl) (by decide +kernel) dX12_hasOwn_52
set_option maxHeartbeats 4000000 in
set_option maxRecDepth 100000 in
theorem m_hasOwn11 (l : Launch) (G : GG) : MP l G yX12_hasOwn cX12_hasOwn 2 (some .boolean) 1 [.int 1, .int 1] [] (fun r : Int32 => r = 1) := by
  refine MP.start (by decide +kernel) (Nat.le_of_ble_eq_true rfl) ?_
  intro p e s m below meth c ls hC hK hP hD hl
  have hl : lv_has ls 2 [(0, .int 1), (1, .int 1)] := hl
  obtain ⟨hx, hb, hr, hml, hB, hown, hlocks, hnm⟩ := id hC
  refine lv_iload_n hx hb dX12_hasOwn_0 rfl (lv_at hl 0 rfl) ?_
  refine lv_tableIn (tgt := 42) hx hb dX12_hasOwn_1 (by decide) (by decide) rfl (by decide) ?_
  refine lv_iload_n hx hb dX12_hasOwn_42 rfl (lv_at hl 1 rfl) ?_
  refine lv_iconst (v := 1) hx hb dX12_hasOwn_43 (by decide) ?_
  refine lv_icmp_ne (tgt := 51) hx hb dX12_hasOwn_44 (by decide) (fun c9 => absurd (by decide) c9) (fun _ => ?_)
  refine lv_iconst (v := 1) hx hb dX12_hasOwn_47 (by decide) ?_
  refine lv_goto (tgt := 52) hx hb dX12_hasOwn_48 (by decide) ?_
  exact RP (v := 1) hC (rfl) (by decide +kernel) dX12_hasOwn_52
set_option maxHeartbeats 4000000 in
set_option maxRecDepth 100000 in
theorem m_hasOwn12 (l : Launch) (G : GG) : MP l G yX12_hasOwn cX12_hasOwn 2 (some .boolean) 1 [.int 1, .int 2] [] (fun r : Int32 => r = 0) := by
  refine MP.start (by decide +kernel) (Nat.le_of_ble_eq_true rfl) ?_
  intro p e s m below meth c ls hC hK hP hD hl
  have hl : lv_has ls 2 [(0, .int 1), (1, .int 2)] := hl
  obtain ⟨hx, hb, hr, hml, hB, hown, hlocks, hnm⟩ := id hC
  refine lv_iload_n hx hb dX12_hasOwn_0 rfl (lv_at hl 0 rfl) ?_
  refine lv_tableIn (tgt := 42) hx hb dX12_hasOwn_1 (by decide) (by decide) rfl (by decide) ?_
  refine lv_iload_n hx hb dX12_hasOwn_42 rfl (lv_at hl 1 rfl) ?_
  refine lv_iconst (v := 1) hx hb dX12_hasOwn_43 (by decide) ?_
  refine lv_icmp_ne (tgt := 51) hx hb dX12_hasOwn_44 (by decide) (fun _ => ?_) (fun c9 => absurd c9 (by decide))
  refine lv_iconst (v := 0) hx hb dX12_hasOwn_51 (by decide) ?_
  exact RP (v := 0) hC (rfl) (by decide +kernel) dX12_hasOwn_52
set_option maxHeartbeats 4000000 in
set_option maxRecDepth 100000 in
theorem m_hasOwn13 (l : Launch) (G : GG) : MP l G yX12_hasOwn cX12_hasOwn 2 (some .boolean) 1 [.int 1, .int 3] [] (fun r : Int32 => r = 0) := by
  refine MP.start (by decide +kernel) (Nat.le_of_ble_eq_true rfl) ?_
  intro p e s m below meth c ls hC hK hP hD hl
  have hl : lv_has ls 2 [(0, .int 1), (1, .int 3)] := hl
  obtain ⟨hx, hb, hr, hml, hB, hown, hlocks, hnm⟩ := id hC
  refine lv_iload_n hx hb dX12_hasOwn_0 rfl (lv_at hl 0 rfl) ?_
  refine lv_tableIn (tgt := 42) hx hb dX12_hasOwn_1 (by decide) (by decide) rfl (by decide) ?_
  refine lv_iload_n hx hb dX12_hasOwn_42 rfl (lv_at hl 1 rfl) ?_
  refine lv_iconst (v := 1) hx hb dX12_hasOwn_43 (by decide) ?_
  refine lv_icmp_ne (tgt := 51) hx hb dX12_hasOwn_44 (by decide) (fun _ => ?_) (fun c9 => absurd c9 (by decide))
  refine lv_iconst (v := 0) hx hb dX12_hasOwn_51 (by decide) ?_
  exact RP (v := 0) hC (rfl) (by decide +kernel) dX12_hasOwn_52
set_option maxHeartbeats 4000000 in
set_option maxRecDepth 100000 in
theorem m_hasOwn20 (l : Launch) (G : GG) : MP l G yX12_hasOwn cX12_hasOwn 2 (some .boolean) 1 [.int 2, .int 0] [] (fun r : Int32 => r = 0) := by
  refine MP.start (by decide +kernel) (Nat.le_of_ble_eq_true rfl) ?_
  intro p e s m below meth c ls hC hK hP hD hl
  have hl : lv_has ls 2 [(0, .int 2), (1, .int 0)] := hl
  obtain ⟨hx, hb, hr, hml, hB, hown, hlocks, hnm⟩ := id hC
  refine lv_iload_n hx hb dX12_hasOwn_0 rfl (lv_at hl 0 rfl) ?_
  refine lv_tableIn (tgt := 53) hx hb dX12_hasOwn_1 (by decide) (by decide) rfl (by decide) ?_
  refine lv_iload_n hx hb dX12_hasOwn_53 rfl (lv_at hl 1 rfl) ?_
  refine lv_iconst (v := 2) hx hb dX12_hasOwn_54 (by decide) ?_
  refine lv_icmp_ne (tgt := 62) hx hb dX12_hasOwn_55 (by decide) (fun _ => ?_) (fun c9 => absurd c9 (by decide))
  refine lv_iconst (v := 0) hx hb dX12_hasOwn_62 (by decide) ?_
  exact RP (v := 0) hC (rfl) (by decide +kernel) dX12_hasOwn_63
set_option maxHeartbeats 4000000 in
set_option maxRecDepth 100000 in
theorem m_hasOwn21 (l : Launch) (G : GG) : MP l G yX12_hasOwn cX12_hasOwn 2 (some .boolean) 1 [.int 2, .int 1] [] (fun r : Int32 => r = 0) := by
  refine MP.start (by decide +kernel) (Nat.le_of_ble_eq_true rfl) ?_
  intro p e s m below meth c ls hC hK hP hD hl
  have hl : lv_has ls 2 [(0, .int 2), (1, .int 1)] := hl
  obtain ⟨hx, hb, hr, hml, hB, hown, hlocks, hnm⟩ := id hC
  refine lv_iload_n hx hb dX12_hasOwn_0 rfl (lv_at hl 0 rfl) ?_
  refine lv_tableIn (tgt := 53) hx hb dX12_hasOwn_1 (by decide) (by decide) rfl (by decide) ?_
  refine lv_iload_n hx hb dX12_hasOwn_53 rfl (lv_at hl 1 rfl) ?_
  refine lv_iconst (v := 2) hx hb dX12_hasOwn_54 (by decide) ?_
  refine lv_icmp_ne (tgt := 62) hx hb dX12_hasOwn_55 (by decide) (fun _ => ?_) (fun c9 => absurd c9 (by decide))
  refine lv_iconst (v := 0) hx hb dX12_hasOwn_62 (by decide) ?_
  exact RP (v := 0) hC (rfl) (by decide +kernel) dX12_hasOwn_63
set_option maxHeartbeats 4000000 in
set_option maxRecDepth 100000 in
theorem m_hasOwn22 (l : Launch) (G : GG) : MP l G yX12_hasOwn cX12_hasOwn 2 (some .boolean) 1 [.int 2, .int 2] [] (fun r : Int32 => r = 1) := by
  refine MP.start (by decide +kernel) (Nat.le_of_ble_eq_true rfl) ?_
  intro p e s m below meth c ls hC hK hP hD hl
  have hl : lv_has ls 2 [(0, .int 2), (1, .int 2)] := hl
  obtain ⟨hx, hb, hr, hml, hB, hown, hlocks, hnm⟩ := id hC
  refine lv_iload_n hx hb dX12_hasOwn_0 rfl (lv_at hl 0 rfl) ?_
  refine lv_tableIn (tgt := 53) hx hb dX12_hasOwn_1 (by decide) (by decide) rfl (by decide) ?_
  refine lv_iload_n hx hb dX12_hasOwn_53 rfl (lv_at hl 1 rfl) ?_
  refine lv_iconst (v := 2) hx hb dX12_hasOwn_54 (by decide) ?_
  refine lv_icmp_ne (tgt := 62) hx hb dX12_hasOwn_55 (by decide) (fun c9 => absurd (by decide) c9) (fun _ => ?_)
  refine lv_iconst (v := 1) hx hb dX12_hasOwn_58 (by decide) ?_
  refine lv_goto (tgt := 63) hx hb dX12_hasOwn_59 (by decide) ?_
  exact RP (v := 1) hC (rfl) (by decide +kernel) dX12_hasOwn_63
set_option maxHeartbeats 4000000 in
set_option maxRecDepth 100000 in
theorem m_hasOwn23 (l : Launch) (G : GG) : MP l G yX12_hasOwn cX12_hasOwn 2 (some .boolean) 1 [.int 2, .int 3] [] (fun r : Int32 => r = 0) := by
  refine MP.start (by decide +kernel) (Nat.le_of_ble_eq_true rfl) ?_
  intro p e s m below meth c ls hC hK hP hD hl
  have hl : lv_has ls 2 [(0, .int 2), (1, .int 3)] := hl
  obtain ⟨hx, hb, hr, hml, hB, hown, hlocks, hnm⟩ := id hC
  refine lv_iload_n hx hb dX12_hasOwn_0 rfl (lv_at hl 0 rfl) ?_
  refine lv_tableIn (tgt := 53) hx hb dX12_hasOwn_1 (by decide) (by decide) rfl (by decide) ?_
  refine lv_iload_n hx hb dX12_hasOwn_53 rfl (lv_at hl 1 rfl) ?_
  refine lv_iconst (v := 2) hx hb dX12_hasOwn_54 (by decide) ?_
  refine lv_icmp_ne (tgt := 62) hx hb dX12_hasOwn_55 (by decide) (fun _ => ?_) (fun c9 => absurd c9 (by decide))
  refine lv_iconst (v := 0) hx hb dX12_hasOwn_62 (by decide) ?_
  exact RP (v := 0) hC (rfl) (by decide +kernel) dX12_hasOwn_63
set_option maxHeartbeats 4000000 in
set_option maxRecDepth 100000 in
theorem m_hasOwn30 (l : Launch) (G : GG) : MP l G yX12_hasOwn cX12_hasOwn 2 (some .boolean) 1 [.int 3, .int 0] [] (fun r : Int32 => r = 0) := by
  refine MP.start (by decide +kernel) (Nat.le_of_ble_eq_true rfl) ?_
  intro p e s m below meth c ls hC hK hP hD hl
  have hl : lv_has ls 2 [(0, .int 3), (1, .int 0)] := hl
  obtain ⟨hx, hb, hr, hml, hB, hown, hlocks, hnm⟩ := id hC
  refine lv_iload_n hx hb dX12_hasOwn_0 rfl (lv_at hl 0 rfl) ?_
  refine lv_tableIn (tgt := 64) hx hb dX12_hasOwn_1 (by decide) (by decide) rfl (by decide) ?_
  refine lv_iload_n hx hb dX12_hasOwn_64 rfl (lv_at hl 1 rfl) ?_
  refine lv_iconst (v := 1) hx hb dX12_hasOwn_65 (by decide) ?_
  refine lv_icmp_eq (tgt := 74) hx hb dX12_hasOwn_66 (by decide) (fun c9 => absurd c9 (by decide)) (fun _ => ?_)
  refine lv_iload_n hx hb dX12_hasOwn_69 rfl (lv_at hl 1 rfl) ?_
  refine lv_iconst (v := 3) hx hb dX12_hasOwn_70 (by decide) ?_
  refine lv_icmp_ne (tgt := 78) hx hb dX12_hasOwn_71 (by decide) (fun _ => ?_) (fun c9 => absurd c9 (by decide))
  refine lv_iconst (v := 0) hx hb dX12_hasOwn_78 (by decide) ?_
  exact RP (v := 0) hC (rfl) (by decide +kernel) dX12_hasOwn_79
set_option maxHeartbeats 4000000 in
set_option maxRecDepth 100000 in
theorem m_hasOwn31 (l : Launch) (G : GG) : MP l G yX12_hasOwn cX12_hasOwn 2 (some .boolean) 1 [.int 3, .int 1] [] (fun r : Int32 => r = 1) := by
  refine MP.start (by decide +kernel) (Nat.le_of_ble_eq_true rfl) ?_
  intro p e s m below meth c ls hC hK hP hD hl
  have hl : lv_has ls 2 [(0, .int 3), (1, .int 1)] := hl
  obtain ⟨hx, hb, hr, hml, hB, hown, hlocks, hnm⟩ := id hC
  refine lv_iload_n hx hb dX12_hasOwn_0 rfl (lv_at hl 0 rfl) ?_
  refine lv_tableIn (tgt := 64) hx hb dX12_hasOwn_1 (by decide) (by decide) rfl (by decide) ?_
  refine lv_iload_n hx hb dX12_hasOwn_64 rfl (lv_at hl 1 rfl) ?_
  refine lv_iconst (v := 1) hx hb dX12_hasOwn_65 (by decide) ?_
  refine lv_icmp_eq (tgt := 74) hx hb dX12_hasOwn_66 (by decide) (fun _ => ?_) (fun c9 => absurd (by decide) c9)
  refine lv_iconst (v := 1) hx hb dX12_hasOwn_74 (by decide) ?_
  refine lv_goto (tgt := 79) hx hb dX12_hasOwn_75 (by decide) ?_
  exact RP (v := 1) hC (rfl) (by decide +kernel) dX12_hasOwn_79
set_option maxHeartbeats 4000000 in
set_option maxRecDepth 100000 in
theorem m_hasOwn32 (l : Launch) (G : GG) : MP l G yX12_hasOwn cX12_hasOwn 2 (some .boolean) 1 [.int 3, .int 2] [] (fun r : Int32 => r = 0) := by
  refine MP.start (by decide +kernel) (Nat.le_of_ble_eq_true rfl) ?_
  intro p e s m below meth c ls hC hK hP hD hl
  have hl : lv_has ls 2 [(0, .int 3), (1, .int 2)] := hl
  obtain ⟨hx, hb, hr, hml, hB, hown, hlocks, hnm⟩ := id hC
  refine lv_iload_n hx hb dX12_hasOwn_0 rfl (lv_at hl 0 rfl) ?_
  refine lv_tableIn (tgt := 64) hx hb dX12_hasOwn_1 (by decide) (by decide) rfl (by decide) ?_
  refine lv_iload_n hx hb dX12_hasOwn_64 rfl (lv_at hl 1 rfl) ?_
  refine lv_iconst (v := 1) hx hb dX12_hasOwn_65 (by decide) ?_
  refine lv_icmp_eq (tgt := 74) hx hb dX12_hasOwn_66 (by decide) (fun c9 => absurd c9 (by decide)) (fun _ => ?_)
  refine lv_iload_n hx hb dX12_hasOwn_69 rfl (lv_at hl 1 rfl) ?_
  refine lv_iconst (v := 3) hx hb dX12_hasOwn_70 (by decide) ?_
  refine lv_icmp_ne (tgt := 78) hx hb dX12_hasOwn_71 (by decide) (fun _ => ?_) (fun c9 => absurd c9 (by decide))
  refine lv_iconst (v := 0) hx hb dX12_hasOwn_78 (by decide) ?_
  exact RP (v := 0) hC (rfl) (by decide +kernel) dX12_hasOwn_79
set_option maxHeartbeats 4000000 in
set_option maxRecDepth 100000 in
theorem m_hasOwn33 (l : Launch) (G : GG) : MP l G yX12_hasOwn cX12_hasOwn 2 (some .boolean) 1 [.int 3, .int 3] [] (fun r : Int32 => r = 1) := by
  refine MP.start (by decide +kernel) (Nat.le_of_ble_eq_true rfl) ?_
  intro p e s m below meth c ls hC hK hP hD hl
  have hl : lv_has ls 2 [(0, .int 3), (1, .int 3)] := hl
  obtain ⟨hx, hb, hr, hml, hB, hown, hlocks, hnm⟩ := id hC
  refine lv_iload_n hx hb dX12_hasOwn_0 rfl (lv_at hl 0 rfl) ?_
  refine lv_tableIn (tgt := 64) hx hb dX12_hasOwn_1 (by decide) (by decide) rfl (by decide) ?_
  refine lv_iload_n hx hb dX12_hasOwn_64 rfl (lv_at hl 1 rfl) ?_
  refine lv_iconst (v := 1) hx hb dX12_hasOwn_65 (by decide) ?_
  refine lv_icmp_eq (tgt := 74) hx hb dX12_hasOwn_66 (by decide) (fun c9 => absurd c9 (by decide)) (fun _ => ?_)
  refine lv_iload_n hx hb dX12_hasOwn_69 rfl (lv_at hl 1 rfl) ?_
  refine lv_iconst (v := 3) hx hb dX12_hasOwn_70 (by decide) ?_
  refine lv_icmp_ne (tgt := 78) hx hb dX12_hasOwn_71 (by decide) (fun c9 => absurd (by decide) c9) (fun _ => ?_)
  refine lv_iconst (v := 1) hx hb dX12_hasOwn_74 (by decide) ?_
  refine lv_goto (tgt := 79) hx hb dX12_hasOwn_75 (by decide) ?_
  exact RP (v := 1) hC (rfl) (by decide +kernel) dX12_hasOwn_79
set_option maxHeartbeats 4000000 in
set_option maxRecDepth 100000 in
theorem m_hasOwn40 (l : Launch) (G : GG) : MP l G yX12_hasOwn cX12_hasOwn 2 (some .boolean) 1 [.int 4, .int 0] [] (fun r : Int32 => r = 1) := by
  refine MP.start (by decide +kernel) (Nat.le_of_ble_eq_true rfl) ?_
  intro p e s m below meth c ls hC hK hP hD hl
  have hl : lv_has ls 2 [(0, .int 4), (1, .int 0)] := hl
  obtain ⟨hx, hb, hr, hml, hB, hown, hlocks, hnm⟩ := id hC
  refine lv_iload_n hx hb dX12_hasOwn_0 rfl (lv_at hl 0 rfl) ?_
  refine lv_tableIn (tgt := 80) hx hb dX12_hasOwn_1 (by decide) (by decide) rfl (by decide) ?_
  refine lv_iload_n hx hb dX12_hasOwn_80 rfl (lv_at hl 1 rfl) ?_
  refine lv_if_eq (tgt := 89) hx hb dX12_hasOwn_81 (by decide) (fun _ => ?_) (fun c9 => absurd (by decide) c9)
  refine lv_iconst (v := 1) hx hb dX12_hasOwn_89 (by decide) ?_
  refine lv_goto (tgt := 94) hx hb dX12_hasOwn_90 (by decide) ?_
  exact RP (v := 1) hC (rfl) (by decide +kernel) dX12_hasOwn_94
set_option maxHeartbeats 4000000 in
set_option maxRecDepth 100000 in
theorem m_hasOwn41 (l : Launch) (G : GG) : MP l G yX12_hasOwn cX12_hasOwn 2 (some .boolean) 1 [.int 4, .int 1] [] (fun r : Int32 => r = 0) := by
  refine MP.start (by decide +kernel) (Nat.le_of_ble_eq_true rfl) ?_
  intro p e s m below meth c ls hC hK hP hD hl
  have hl : lv_has ls 2 [(0, .int 4), (1, .int 1)] := hl
  obtain ⟨hx, hb, hr, hml, hB, hown, hlocks, hnm⟩ := id hC
  refine lv_iload_n hx hb dX12_hasOwn_0 rfl (lv_at hl 0 rfl) ?_
  refine lv_tableIn (tgt := 80) hx hb dX12_hasOwn_1 (by decide) (by decide) rfl (by decide) ?_
  refine lv_iload_n hx hb dX12_hasOwn_80 rfl (lv_at hl 1 rfl) ?_
  refine lv_if_eq (tgt := 89) hx hb dX12_hasOwn_81 (by decide) (fun c9 => absurd c9 (by decide)) (fun _ => ?_)
  refine lv_iload_n hx hb dX12_hasOwn_84 rfl (lv_at hl 1 rfl) ?_
  refine lv_iconst (v := 2) hx hb dX12_hasOwn_85 (by decide) ?_
  refine lv_icmp_ne (tgt := 93) hx hb dX12_hasOwn_86 (by decide) (fun _ => ?_) (fun c9 => absurd c9 (by decide))
  refine lv_iconst (v := 0) hx hb dX12_hasOwn_93 (by decide) ?_
  exact RP (v := 0) hC (rfl) (by decide +kernel) dX12_hasOwn_94
set_option maxHeartbeats 4000000 in
set_option maxRecDepth 100000 in
theorem m_hasOwn42 (l : Launch) (G : GG) : MP l G yX12_hasOwn cX12_hasOwn 2 (some .boolean) 1 [.int 4, .int 2] [] (fun r : Int32 => r = 1) := by
  refine MP.start (by decide +kernel) (Nat.le_of_ble_eq_true rfl) ?_
  intro p e s m below meth c ls hC hK hP hD hl
  have hl : lv_has ls 2 [(0, .int 4), (1, .int 2)] := hl
  obtain ⟨hx, hb, hr, hml, hB, hown, hlocks, hnm⟩ := id hC
  refine lv_iload_n hx hb dX12_hasOwn_0 rfl (lv_at hl 0 rfl) ?_
  refine lv_tableIn (tgt := 80) hx hb dX12_hasOwn_1 (by decide) (by decide) rfl (by decide) ?_
  refine lv_iload_n hx hb dX12_hasOwn_80 rfl (lv_at hl 1 rfl) ?_
  refine lv_if_eq (tgt := 89) hx hb dX12_hasOwn_81 (by decide) (fun c9 => absurd c9 (by decide)) (fun _ => ?_)
  refine lv_iload_n hx hb dX12_hasOwn_84 rfl (lv_at hl 1 rfl) ?_
  refine lv_iconst (v := 2) hx hb dX12_hasOwn_85 (by decide) ?_
  refine lv_icmp_ne (tgt := 93) hx hb dX12_hasOwn_86 (by decide) (fun c9 => absurd (by decide) c9) (fun _ => ?_)
  refine lv_iconst (v := 1) hx hb dX12_hasOwn_89 (by decide) ?_
  refine lv_goto (tgt := 94) hx hb dX12_hasOwn_90 (by decide) ?_
  exact RP (v := 1) hC (rfl) (by decide +kernel) dX12_hasOwn_94
set_option maxHeartbeats 4000000 in
set_option maxRecDepth 100000 in
theorem m_hasOwn43 (l : Launch) (G : GG) : MP l G yX12_hasOwn cX12_hasOwn 2 (some .boolean) 1 [.int 4, .int 3] [] (fun r : Int32 => r = 0) := by
  refine MP.start (by decide +kernel) (Nat.le_of_ble_eq_true rfl) ?_
  intro p e s m below meth c ls hC hK hP hD hl
  have hl : lv_has ls 2 [(0, .int 4), (1, .int 3)] := hl
  obtain ⟨hx, hb, hr, hml, hB, hown, hlocks, hnm⟩ := id hC
  refine lv_iload_n hx hb dX12_hasOwn_0 rfl (lv_at hl 0 rfl) ?_
  refine lv_tableIn (tgt := 80) hx hb dX12_hasOwn_1 (by decide) (by decide) rfl (by decide) ?_
  refine lv_iload_n hx hb dX12_hasOwn_80 rfl (lv_at hl 1 rfl) ?_
  refine lv_if_eq (tgt := 89) hx hb dX12_hasOwn_81 (by decide) (fun c9 => absurd c9 (by decide)) (fun _ => ?_)
  refine lv_iload_n hx hb dX12_hasOwn_84 rfl (lv_at hl 1 rfl) ?_
  refine lv_iconst (v := 2) hx hb dX12_hasOwn_85 (by decide) ?_
  refine lv_icmp_ne (tgt := 93) hx hb dX12_hasOwn_86 (by decide) (fun _ => ?_) (fun c9 => absurd c9 (by decide))
  refine lv_iconst (v := 0) hx hb dX12_hasOwn_93 (by decide) ?_
  exact RP (v := 0) hC (rfl) (by decide +kernel) dX12_hasOwn_94
set_option maxHeartbeats 4000000 in
set_option maxRecDepth 100000 in
theorem m_hasOwn50 (l : Launch) (G : GG) : MP l G yX12_hasOwn cX12_hasOwn 2 (some .boolean) 1 [.int 5, .int 0] [] (fun r : Int32 => r = 1) := by
  refine MP.start (by decide +kernel) (Nat.le_of_ble_eq_true rfl) ?_
  intro p e s m below meth c ls hC hK hP hD hl
  have hl : lv_has ls 2 [(0, .int 5), (1, .int 0)] := hl
  obtain ⟨hx, hb, hr, hml, hB, hown, hlocks, hnm⟩ := id hC
  refine lv_iload_n hx hb dX12_hasOwn_0 rfl (lv_at hl 0 rfl) ?_
  refine lv_tableIn (tgt := 80) hx hb dX12_hasOwn_1 (by decide) (by decide) rfl (by decide) ?_
  refine lv_iload_n hx hb dX12_hasOwn_80 rfl (lv_at hl 1 rfl) ?_
  refine lv_if_eq (tgt := 89) hx hb dX12_hasOwn_81 (by decide) (fun _ => ?_) (fun c9 => absurd (by decide) c9)
  refine lv_iconst (v := 1) hx hb dX12_hasOwn_89 (by decide) ?_
  refine lv_goto (tgt := 94) hx hb dX12_hasOwn_90 (by decide) ?_
  exact RP (v := 1) hC (rfl) (by decide +kernel) dX12_hasOwn_94
set_option maxHeartbeats 4000000 in
set_option maxRecDepth 100000 in
theorem m_hasOwn51 (l : Launch) (G : GG) : MP l G yX12_hasOwn cX12_hasOwn 2 (some .boolean) 1 [.int 5, .int 1] [] (fun r : Int32 => r = 0) := by
  refine MP.start (by decide +kernel) (Nat.le_of_ble_eq_true rfl) ?_
  intro p e s m below meth c ls hC hK hP hD hl
  have hl : lv_has ls 2 [(0, .int 5), (1, .int 1)] := hl
  obtain ⟨hx, hb, hr, hml, hB, hown, hlocks, hnm⟩ := id hC
  refine lv_iload_n hx hb dX12_hasOwn_0 rfl (lv_at hl 0 rfl) ?_
  refine lv_tableIn (tgt := 80) hx hb dX12_hasOwn_1 (by decide) (by decide) rfl (by decide) ?_
  refine lv_iload_n hx hb dX12_hasOwn_80 rfl (lv_at hl 1 rfl) ?_
  refine lv_if_eq (tgt := 89) hx hb dX12_hasOwn_81 (by decide) (fun c9 => absurd c9 (by decide)) (fun _ => ?_)
  refine lv_iload_n hx hb dX12_hasOwn_84 rfl (lv_at hl 1 rfl) ?_
  refine lv_iconst (v := 2) hx hb dX12_hasOwn_85 (by decide) ?_
  refine lv_icmp_ne (tgt := 93) hx hb dX12_hasOwn_86 (by decide) (fun _ => ?_) (fun c9 => absurd c9 (by decide))
  refine lv_iconst (v := 0) hx hb dX12_hasOwn_93 (by decide) ?_
  exact RP (v := 0) hC (rfl) (by decide +kernel) dX12_hasOwn_94
set_option maxHeartbeats 4000000 in
set_option maxRecDepth 100000 in
theorem m_hasOwn52 (l : Launch) (G : GG) : MP l G yX12_hasOwn cX12_hasOwn 2 (some .boolean) 1 [.int 5, .int 2] [] (fun r : Int32 => r = 1) := by
  refine MP.start (by decide +kernel) (Nat.le_of_ble_eq_true rfl) ?_
  intro p e s m below meth c ls hC hK hP hD hl
  have hl : lv_has ls 2 [(0, .int 5), (1, .int 2)] := hl
  obtain ⟨hx, hb, hr, hml, hB, hown, hlocks, hnm⟩ := id hC
  refine lv_iload_n hx hb dX12_hasOwn_0 rfl (lv_at hl 0 rfl) ?_
  refine lv_tableIn (tgt := 80) hx hb dX12_hasOwn_1 (by decide) (by decide) rfl (by decide) ?_
  refine lv_iload_n hx hb dX12_hasOwn_80 rfl (lv_at hl 1 rfl) ?_
  refine lv_if_eq (tgt := 89) hx hb dX12_hasOwn_81 (by decide) (fun c9 => absurd c9 (by decide)) (fun _ => ?_)
  refine lv_iload_n hx hb dX12_hasOwn_84 rfl (lv_at hl 1 rfl) ?_
  refine lv_iconst (v := 2) hx hb dX12_hasOwn_85 (by decide) ?_
  refine lv_icmp_ne (tgt := 93) hx hb dX12_hasOwn_86 (by decide) (fun c9 => absurd (by decide) c9) (fun _ => ?_)
  refine lv_iconst (v := 1) hx hb dX12_hasOwn_89 (by decide) ?_
  refine lv_goto (tgt := 94) hx hb dX12_hasOwn_90 (by decide) ?_
  exact RP (v := 1) hC (rfl) (by decide +kernel) dX12_hasOwn_94
set_option maxHeartbeats 4000000 in
set_option maxRecDepth 100000 in
theorem m_hasOwn53 (l : Launch) (G : GG) : MP l G yX12_hasOwn cX12_hasOwn 2 (some .boolean) 1 [.int 5, .int 3] [] (fun r : Int32 => r = 0) := by
  refine MP.start (by decide +kernel) (Nat.le_of_ble_eq_true rfl) ?_
  intro p e s m below meth c ls hC hK hP hD hl
  have hl : lv_has ls 2 [(0, .int 5), (1, .int 3)] := hl
  obtain ⟨hx, hb, hr, hml, hB, hown, hlocks, hnm⟩ := id hC
  refine lv_iload_n hx hb dX12_hasOwn_0 rfl (lv_at hl 0 rfl) ?_
  refine lv_tableIn (tgt := 80) hx hb dX12_hasOwn_1 (by decide) (by decide) rfl (by decide) ?_
  refine lv_iload_n hx hb dX12_hasOwn_80 rfl (lv_at hl 1 rfl) ?_
  refine lv_if_eq (tgt := 89) hx hb dX12_hasOwn_81 (by decide) (fun c9 => absurd c9 (by decide)) (fun _ => ?_)
  refine lv_iload_n hx hb dX12_hasOwn_84 rfl (lv_at hl 1 rfl) ?_
  refine lv_iconst (v := 2) hx hb dX12_hasOwn_85 (by decide) ?_
  refine lv_icmp_ne (tgt := 93) hx hb dX12_hasOwn_86 (by decide) (fun _ => ?_) (fun c9 => absurd c9 (by decide))
  refine lv_iconst (v := 0) hx hb dX12_hasOwn_93 (by decide) ?_
  exact RP (v := 0) hC (rfl) (by decide +kernel) dX12_hasOwn_94
set_option maxHeartbeats 4000000 in
set_option maxRecDepth 100000 in
theorem m_hasOwn60 (l : Launch) (G : GG) : MP l G yX12_hasOwn cX12_hasOwn 2 (some .boolean) 1 [.int 6, .int 0] [] (fun r : Int32 => r = 0) := by
  refine MP.start (by decide +kernel) (Nat.le_of_ble_eq_true rfl) ?_
  intro p e s m below meth c ls hC hK hP hD hl
  have hl : lv_has ls 2 [(0, .int 6), (1, .int 0)] := hl
  obtain ⟨hx, hb, hr, hml, hB, hown, hlocks, hnm⟩ := id hC
  refine lv_iload_n hx hb dX12_hasOwn_0 rfl (lv_at hl 0 rfl) ?_
  refine lv_tableOut (tgt := 95) hx hb dX12_hasOwn_1 (by decide) (by decide) ?_
  refine lv_iload_n hx hb dX12_hasOwn_95 rfl (lv_at hl 1 rfl) ?_
  refine lv_iconst (v := 3) hx hb dX12_hasOwn_96 (by decide) ?_
  refine lv_icmp_ne (tgt := 104) hx hb dX12_hasOwn_97 (by decide) (fun _ => ?_) (fun c9 => absurd c9 (by decide))
  refine lv_iconst (v := 0) hx hb dX12_hasOwn_104 (by decide) ?_
  exact RP (v := 0) hC (rfl) (by decide +kernel) dX12_hasOwn_105
set_option maxHeartbeats 4000000 in
set_option maxRecDepth 100000 in
theorem m_hasOwn61 (l : Launch) (G : GG) : MP l G yX12_hasOwn cX12_hasOwn 2 (some .boolean) 1 [.int 6, .int 1] [] (fun r : Int32 => r = 0) := by
  refine MP.start (by decide +kernel) (Nat.le_of_ble_eq_true rfl) ?_
  intro p e s m below meth c ls hC hK hP hD hl
  have hl : lv_has ls 2 [(0, .int 6), (1, .int 1)] := hl
  obtain ⟨hx, hb, hr, hml, hB, hown, hlocks, hnm⟩ := id hC
  refine lv_iload_n hx hb dX12_hasOwn_0 rfl (lv_at hl 0 rfl) ?_
  refine lv_tableOut (tgt := 95) hx hb dX12_hasOwn_1 (by decide) (by decide) ?_
  refine lv_iload_n hx hb dX12_hasOwn_95 rfl (lv_at hl 1 rfl) ?_
  refine lv_iconst (v := 3) hx hb dX12_hasOwn_96 (by decide) ?_
  refine lv_icmp_ne (tgt := 104) hx hb dX12_hasOwn_97 (by decide) (fun _ => ?_) (fun c9 => absurd c9 (by decide))
  refine lv_iconst (v := 0) hx hb dX12_hasOwn_104 (by decide) ?_
  exact RP (v := 0) hC (rfl) (by decide +kernel) dX12_hasOwn_105
set_option maxHeartbeats 4000000 in
set_option maxRecDepth 100000 in
theorem m_hasOwn62 (l : Launch) (G : GG) : MP l G yX12_hasOwn cX12_hasOwn 2 (some .boolean) 1 [.int 6, .int 2] [] (fun r : Int32 => r = 0) := by
  refine MP.start (by decide +kernel) (Nat.le_of_ble_eq_true rfl) ?_
  intro p e s m below meth c ls hC hK hP hD hl
  have hl : lv_has ls 2 [(0, .int 6), (1, .int 2)] := hl
  obtain ⟨hx, hb, hr, hml, hB, hown, hlocks, hnm⟩ := id hC
  refine lv_iload_n hx hb dX12_hasOwn_0 rfl (lv_at hl 0 rfl) ?_
  refine lv_tableOut (tgt := 95) hx hb dX12_hasOwn_1 (by decide) (by decide) ?_
  refine lv_iload_n hx hb dX12_hasOwn_95 rfl (lv_at hl 1 rfl) ?_
  refine lv_iconst (v := 3) hx hb dX12_hasOwn_96 (by decide) ?_
  refine lv_icmp_ne (tgt := 104) hx hb dX12_hasOwn_97 (by decide) (fun _ => ?_) (fun c9 => absurd c9 (by decide))
  refine lv_iconst (v := 0) hx hb dX12_hasOwn_104 (by decide) ?_
  exact RP (v := 0) hC (rfl) (by decide +kernel) dX12_hasOwn_105
set_option maxHeartbeats 4000000 in
set_option maxRecDepth 100000 in
theorem m_hasOwn63 (l : Launch) (G : GG) : MP l G yX12_hasOwn cX12_hasOwn 2 (some .boolean) 1 [.int 6, .int 3] [] (fun r : Int32 => r = 1) := by
  refine MP.start (by decide +kernel) (Nat.le_of_ble_eq_true rfl) ?_
  intro p e s m below meth c ls hC hK hP hD hl
  have hl : lv_has ls 2 [(0, .int 6), (1, .int 3)] := hl
  obtain ⟨hx, hb, hr, hml, hB, hown, hlocks, hnm⟩ := id hC
  refine lv_iload_n hx hb dX12_hasOwn_0 rfl (lv_at hl 0 rfl) ?_
  refine lv_tableOut (tgt := 95) hx hb dX12_hasOwn_1 (by decide) (by decide) ?_
  refine lv_iload_n hx hb dX12_hasOwn_95 rfl (lv_at hl 1 rfl) ?_
  refine lv_iconst (v := 3) hx hb dX12_hasOwn_96 (by decide) ?_
  refine lv_icmp_ne (tgt := 104) hx hb dX12_hasOwn_97 (by decide) (fun c9 => absurd (by decide) c9) (fun _ => ?_)
  refine lv_iconst (v := 1) hx hb dX12_hasOwn_100 (by decide) ?_
  refine lv_goto (tgt := 105) hx hb dX12_hasOwn_101 (by decide) ?_
  exact RP (v := 1) hC (rfl) (by decide +kernel) dX12_hasOwn_105
set_option maxHeartbeats 4000000 in
set_option maxRecDepth 100000 in
theorem r_taken (l : Launch) (G : GG) (h0 : Nat) (x1 : Int32) (x2 : Int32) (nw : Nat) (nk : Nat) (mhasKept : Int32) (nt : Nat) (mtaped : Int32) (nr : Nat) (mrowMany : Int32) (mroundOf : Int32) (mroundFrom : Int32) (mouts : Int32) (nm : Nat) (mfromHour : Int32) (mtoHour : Int32) (ns : Nat) (mfrom : Int32) (mto : Int32) (msort : Int32) (misFault : Int32) (mdeep : Int32) (mcoded : Int32) (mlines : Int32) (nl : Nat) (nc : Nat) (nF : Nat) (np : Nat) (ntr : Nat) (nb : Nat) (mbestCost : Int32) (nso : Nat) (nsi : Nat) (nit : Nat) (nsh : Nat) (nsf : Nat) (nss : Nat) (nrc : Nat) (mtraced : Int32) (mdealer : Int32) (mnumber : Int32) (mwhose : Int32) (msize : Int32) (misParted : Int32) (fnw : Nat → Int32) (fnsh : Nat → Int32) (fnsf : Nat → Int32) (fnss : Nat → Int32) (hN : NI fnw) : MP l G yX12_taken cX12_taken 4 (some .int) 4 [.ref h0, .int x1, .int x2] [(h0, .inr (12, [.ref nw, .ref nk, .int mhasKept, .ref nt, .int mtaped, .ref nr, .int mrowMany, .int mroundOf, .int mroundFrom, .int mouts, .ref nm, .int mfromHour, .int mtoHour, .ref ns, .int mfrom, .int mto, .int msort, .int misFault, .int mdeep, .int mcoded, .int mlines, .ref nl, .ref nc, .ref nF, .ref np, .ref ntr, .ref nb, .int mbestCost, .ref nso, .ref nsi, .ref nit, .ref nsh, .ref nsf, .ref nss, .ref nrc, .int mtraced, .int mdealer, .int mnumber, .int mwhose, .int msize, .int misParted])), (nw, .inl (G.2.1, 1662, .inl fnw)), (nsh, .inl (G.2.1, 4, .inl fnsh)), (nsf, .inl (G.2.1, 4, .inl fnsf)), (nss, .inl (G.2.1, 4, .inl fnss))] (fun r : Int32 => True) := by
  refine MP.start (by decide +kernel) (Nat.le_of_ble_eq_true rfl) ?_
  intro p e s m below meth c ls hC hK hP hD hl
  have hl : lv_has ls 4 [(0, .ref h0), (1, .int x1), (2, .int x2)] := hl
  obtain ⟨hx, hb, hr, hml, hB, hown, hlocks, hnm⟩ := id hC
  refine lv_iload_n hx hb dX12_taken_0 rfl (lv_at hl 1 rfl) ?_
  refine pS hC hK hl (m_isFour l G x1) si_X12_336 rfl rfl (Nat.le_of_ble_eq_true rfl) ⟨Nat.le_of_ble_eq_true rfl, Nat.le_of_ble_eq_true rfl⟩ ⟨by first | exact Nat.le_of_ble_eq_true rfl | exact Nat.zero_le _, by first | exact Nat.le_of_ble_eq_true rfl | exact Nat.zero_le _⟩ dX12_taken_1 (fun r5379 hr5379 => ?_)
  rcases hr5379 with ⟨rfl, a5380⟩ | ⟨rfl, a5380⟩
  · refine lv_if_eq (tgt := 28) hx hb dX12_taken_4 (by decide) (fun c9 => absurd c9 (by decide)) (fun _ => ?_)
    refine lv_iload_n hx hb dX12_taken_7 rfl (lv_at hl 2 rfl) ?_
    refine lv_iconst (v := 0) hx hb dX12_taken_8 (by decide) ?_
    refine lv_bipush (v := 6) hx hb dX12_taken_9 (by decide) ?_
    refine pS hC hK hl (m_within l G x2 0 6) si_X12_84 rfl rfl (Nat.le_of_ble_eq_true rfl) ⟨Nat.le_of_ble_eq_true rfl, Nat.le_of_ble_eq_true rfl⟩ ⟨by first | exact Nat.le_of_ble_eq_true rfl | exact Nat.zero_le _, by first | exact Nat.le_of_ble_eq_true rfl | exact Nat.zero_le _⟩ dX12_taken_11 (fun r5381 hr5381 => ?_)
    rcases hr5381 with ⟨rfl, a5382⟩ | ⟨rfl, a5382⟩
    · refine lv_if_ne (tgt := 30) hx hb dX12_taken_14 (by decide) (fun _ => ?_) (fun c9 => absurd c9 (by decide))
      obtain ⟨jt, hjt, rfl⟩ := Wi_nat (N := 3) (by decide) a5380
      refine lv_aload_n hx hb dX12_taken_30 rfl (lv_at hl 0 rfl) ?_
      refine gf_X12_72 hC rfl hK hP 0 rfl rfl dX12_taken_31 ?_
      refine lv_iload_n hx hb dX12_taken_34 rfl (lv_at hl 1 rfl) ?_
      refine ald hC hK hP 2 rfl (vp_in_nI (by omega) (by omega)) (k := jt) (nI_clamp (by omega)) (v := fnsh jt) rfl dX12_taken_35 ?_
      refine lv_topi (fun x5383 ex5383 => ?_)
      refine lv_iconst (v := 4) hx hb dX12_taken_36 (by decide) ?_
      refine lv_icmp_ne (tgt := 65) hx hb dX12_taken_37 (by decide) (fun c_37_5384 => ?_) (fun c_37_5384 => ?_)
      · refine lv_aload_n hx hb dX12_taken_65 rfl (lv_at hl 0 rfl) ?_
        refine lv_iload_n hx hb dX12_taken_66 rfl (lv_at hl 1 rfl) ?_
        refine pV hC hK hl hP hD (m_kindOn l G h0 jt nw nk mhasKept nt mtaped nr mrowMany mroundOf mroundFrom mouts nm mfromHour mtoHour ns mfrom mto msort misFault mdeep mcoded mlines nl nc nF np ntr nb mbestCost nso nsi nit nsh nsf nss nrc mtraced mdealer mnumber mwhose msize misParted fnw fnsh fnsf (by omega) (hN)) si_X12_345 [0, 1, 2, 3] rfl rfl (by decide) rfl rfl rfl rfl rfl (Nat.le_of_ble_eq_true rfl) ⟨Nat.le_of_ble_eq_true rfl, Nat.le_of_ble_eq_true rfl⟩ ⟨by first | exact Nat.le_of_ble_eq_true rfl | exact Nat.zero_le _, by first | exact Nat.le_of_ble_eq_true rfl | exact Nat.zero_le _⟩ dX12_taken_67 (fun r5385 hr5385 => ?_)
        rcases hr5385 with rfl | ⟨rfl, a5386⟩ | ⟨rfl, a5386⟩ | ⟨rfl, a5386⟩ | ⟨rfl, a5386⟩ | ⟨rfl, a5386⟩ | ⟨rfl, a5386⟩
        · refine lv_istore_n (lv' := [(3, .int (-1)), (0, .ref h0), (1, .int (nI jt)), (2, .int x2)]) hx hb dX12_taken_70 rfl hl (by decide) rfl (fun ls hl => ?_)
          refine lv_iload_n hx hb dX12_taken_71 rfl (lv_at hl 0 rfl) ?_
          refine lv_if_ge (tgt := 78) hx hb dX12_taken_72 (by decide) (fun c9 => absurd c9 (by decide)) (fun _ => ?_)
          refine lv_bipush (v := (-11)) hx hb dX12_taken_75 (by decide) ?_
          exact RP (v := (-11)) hC (trivial) rfl dX12_taken_77
        · refine lv_istore_n (lv' := [(3, .int 1), (0, .ref h0), (1, .int (nI jt)), (2, .int x2)]) hx hb dX12_taken_70 rfl hl (by decide) rfl (fun ls hl => ?_)
          refine lv_iload_n hx hb dX12_taken_71 rfl (lv_at hl 0 rfl) ?_
          refine lv_if_ge (tgt := 78) hx hb dX12_taken_72 (by decide) (fun _ => ?_) (fun c9 => absurd (by decide) c9)
          refine lv_iload_n hx hb dX12_taken_78 rfl (lv_at hl 0 rfl) ?_
          refine lv_if_lt (tgt := 95) hx hb dX12_taken_79 (by decide) (fun c9 => absurd c9 (by decide)) (fun _ => ?_)
          refine lv_iload_n hx hb dX12_taken_82 rfl (lv_at hl 0 rfl) ?_
          refine lv_iload_n hx hb dX12_taken_83 rfl (lv_at hl 3 rfl) ?_
          refine lv_icmp_eq (tgt := 95) hx hb dX12_taken_84 (by decide) (fun c_84_5387 => ?_) (fun c_84_5387 => ?_)
          · refine lv_iload_n hx hb dX12_taken_95 rfl (lv_at hl 0 rfl) ?_
            refine lv_iload_n hx hb dX12_taken_96 rfl (lv_at hl 3 rfl) ?_
            refine lv_icmp_ne (tgt := 109) hx hb dX12_taken_97 (by decide) (fun c9 => absurd (c_84_5387) c9) (fun _ => ?_)
            refine lv_aload_n hx hb dX12_taken_100 rfl (lv_at hl 1 rfl) ?_
            refine gf_X12_75 hC rfl hK hP 0 rfl rfl dX12_taken_101 ?_
            refine lv_iload_n hx hb dX12_taken_104 rfl (lv_at hl 2 rfl) ?_
            refine ald hC hK hP 3 rfl (vp_in_nI (by omega) (by omega)) (k := jt) (nI_clamp (by omega)) (v := fnsf jt) rfl dX12_taken_105 ?_
            refine lv_topi (fun x5388 ex5388 => ?_)
            refine lv_goto (tgt := 111) hx hb dX12_taken_106 (by decide) ?_
            exact RP (v := x5388) hC (trivial) rfl dX12_taken_111
          · refine lv_iload_n hx hb dX12_taken_87 rfl (lv_at hl 0 rfl) ?_
            refine pS hC hK hl (m_above1 l G) si_X12_348 rfl rfl (Nat.le_of_ble_eq_true rfl) ⟨Nat.le_of_ble_eq_true rfl, Nat.le_of_ble_eq_true rfl⟩ ⟨by first | exact Nat.le_of_ble_eq_true rfl | exact Nat.zero_le _, by first | exact Nat.le_of_ble_eq_true rfl | exact Nat.zero_le _⟩ dX12_taken_88 (fun r5389 hr5389 => ?_)
            obtain rfl := hr5389
            refine lv_istore_n (lv' := [(3, .int 0), (0, .ref h0), (1, .int (nI jt)), (2, .int x2)]) hx hb dX12_taken_91 rfl hl (by decide) rfl (fun ls hl => ?_)
            refine lv_goto (tgt := 78) hx hb dX12_taken_92 (by decide) ?_
            refine lv_iload_n hx hb dX12_taken_78 rfl (lv_at hl 0 rfl) ?_
            refine lv_if_lt (tgt := 95) hx hb dX12_taken_79 (by decide) (fun c9 => absurd c9 (by decide)) (fun _ => ?_)
            refine lv_iload_n hx hb dX12_taken_82 rfl (lv_at hl 0 rfl) ?_
            refine lv_iload_n hx hb dX12_taken_83 rfl (lv_at hl 3 rfl) ?_
            refine lv_icmp_eq (tgt := 95) hx hb dX12_taken_84 (by decide) (fun c_84_5391 => ?_) (fun c_84_5391 => ?_)
            · refine lv_iload_n hx hb dX12_taken_95 rfl (lv_at hl 0 rfl) ?_
              refine lv_iload_n hx hb dX12_taken_96 rfl (lv_at hl 3 rfl) ?_
              refine lv_icmp_ne (tgt := 109) hx hb dX12_taken_97 (by decide) (fun c9 => absurd (c_84_5391) c9) (fun _ => ?_)
              refine lv_aload_n hx hb dX12_taken_100 rfl (lv_at hl 1 rfl) ?_
              refine gf_X12_75 hC rfl hK hP 0 rfl rfl dX12_taken_101 ?_
              refine lv_iload_n hx hb dX12_taken_104 rfl (lv_at hl 2 rfl) ?_
              refine ald hC hK hP 3 rfl (vp_in_nI (by omega) (by omega)) (k := jt) (nI_clamp (by omega)) (v := fnsf jt) rfl dX12_taken_105 ?_
              refine lv_topi (fun x5392 ex5392 => ?_)
              refine lv_goto (tgt := 111) hx hb dX12_taken_106 (by decide) ?_
              exact RP (v := x5392) hC (trivial) rfl dX12_taken_111
            · refine lv_iload_n hx hb dX12_taken_87 rfl (lv_at hl 0 rfl) ?_
              refine pS hC hK hl (m_above0 l G) si_X12_348 rfl rfl (Nat.le_of_ble_eq_true rfl) ⟨Nat.le_of_ble_eq_true rfl, Nat.le_of_ble_eq_true rfl⟩ ⟨by first | exact Nat.le_of_ble_eq_true rfl | exact Nat.zero_le _, by first | exact Nat.le_of_ble_eq_true rfl | exact Nat.zero_le _⟩ dX12_taken_88 (fun r5393 hr5393 => ?_)
              obtain rfl := hr5393
              refine lv_istore_n (lv' := [(3, .int (-1)), (0, .ref h0), (1, .int (nI jt)), (2, .int x2)]) hx hb dX12_taken_91 rfl hl (by decide) rfl (fun ls hl => ?_)
              refine lv_goto (tgt := 78) hx hb dX12_taken_92 (by decide) ?_
              refine lv_iload_n hx hb dX12_taken_78 rfl (lv_at hl 0 rfl) ?_
              refine lv_if_lt (tgt := 95) hx hb dX12_taken_79 (by decide) (fun _ => ?_) (fun c9 => absurd (by decide) c9)
              refine lv_iload_n hx hb dX12_taken_95 rfl (lv_at hl 0 rfl) ?_
              refine lv_iload_n hx hb dX12_taken_96 rfl (lv_at hl 3 rfl) ?_
              refine lv_icmp_ne (tgt := 109) hx hb dX12_taken_97 (by decide) (fun c_97_5395 => ?_) (fun c_97_5395 => ?_)
              · refine lv_bipush (v := (-13)) hx hb dX12_taken_109 (by decide) ?_
                exact RP (v := (-13)) hC (trivial) rfl dX12_taken_111
              · refine lv_aload_n hx hb dX12_taken_100 rfl (lv_at hl 1 rfl) ?_
                refine gf_X12_75 hC rfl hK hP 0 rfl rfl dX12_taken_101 ?_
                refine lv_iload_n hx hb dX12_taken_104 rfl (lv_at hl 2 rfl) ?_
                refine ald hC hK hP 3 rfl (vp_in_nI (by omega) (by omega)) (k := jt) (nI_clamp (by omega)) (v := fnsf jt) rfl dX12_taken_105 ?_
                refine lv_topi (fun x5396 ex5396 => ?_)
                refine lv_goto (tgt := 111) hx hb dX12_taken_106 (by decide) ?_
                exact RP (v := x5396) hC (trivial) rfl dX12_taken_111
        · refine lv_istore_n (lv' := [(3, .int 2), (0, .ref h0), (1, .int (nI jt)), (2, .int x2)]) hx hb dX12_taken_70 rfl hl (by decide) rfl (fun ls hl => ?_)
          refine lv_iload_n hx hb dX12_taken_71 rfl (lv_at hl 0 rfl) ?_
          refine lv_if_ge (tgt := 78) hx hb dX12_taken_72 (by decide) (fun _ => ?_) (fun c9 => absurd (by decide) c9)
          refine lv_iload_n hx hb dX12_taken_78 rfl (lv_at hl 0 rfl) ?_
          refine lv_if_lt (tgt := 95) hx hb dX12_taken_79 (by decide) (fun c9 => absurd c9 (by decide)) (fun _ => ?_)
          refine lv_iload_n hx hb dX12_taken_82 rfl (lv_at hl 0 rfl) ?_
          refine lv_iload_n hx hb dX12_taken_83 rfl (lv_at hl 3 rfl) ?_
          refine lv_icmp_eq (tgt := 95) hx hb dX12_taken_84 (by decide) (fun c_84_5397 => ?_) (fun c_84_5397 => ?_)
          · refine lv_iload_n hx hb dX12_taken_95 rfl (lv_at hl 0 rfl) ?_
            refine lv_iload_n hx hb dX12_taken_96 rfl (lv_at hl 3 rfl) ?_
            refine lv_icmp_ne (tgt := 109) hx hb dX12_taken_97 (by decide) (fun c9 => absurd (c_84_5397) c9) (fun _ => ?_)
            refine lv_aload_n hx hb dX12_taken_100 rfl (lv_at hl 1 rfl) ?_
            refine gf_X12_75 hC rfl hK hP 0 rfl rfl dX12_taken_101 ?_
            refine lv_iload_n hx hb dX12_taken_104 rfl (lv_at hl 2 rfl) ?_
            refine ald hC hK hP 3 rfl (vp_in_nI (by omega) (by omega)) (k := jt) (nI_clamp (by omega)) (v := fnsf jt) rfl dX12_taken_105 ?_
            refine lv_topi (fun x5398 ex5398 => ?_)
            refine lv_goto (tgt := 111) hx hb dX12_taken_106 (by decide) ?_
            exact RP (v := x5398) hC (trivial) rfl dX12_taken_111
          · refine lv_iload_n hx hb dX12_taken_87 rfl (lv_at hl 0 rfl) ?_
            refine pS hC hK hl (m_above2 l G) si_X12_348 rfl rfl (Nat.le_of_ble_eq_true rfl) ⟨Nat.le_of_ble_eq_true rfl, Nat.le_of_ble_eq_true rfl⟩ ⟨by first | exact Nat.le_of_ble_eq_true rfl | exact Nat.zero_le _, by first | exact Nat.le_of_ble_eq_true rfl | exact Nat.zero_le _⟩ dX12_taken_88 (fun r5399 hr5399 => ?_)
            obtain rfl := hr5399
            refine lv_istore_n (lv' := [(3, .int 0), (0, .ref h0), (1, .int (nI jt)), (2, .int x2)]) hx hb dX12_taken_91 rfl hl (by decide) rfl (fun ls hl => ?_)
            refine lv_goto (tgt := 78) hx hb dX12_taken_92 (by decide) ?_
            refine lv_iload_n hx hb dX12_taken_78 rfl (lv_at hl 0 rfl) ?_
            refine lv_if_lt (tgt := 95) hx hb dX12_taken_79 (by decide) (fun c9 => absurd c9 (by decide)) (fun _ => ?_)
            refine lv_iload_n hx hb dX12_taken_82 rfl (lv_at hl 0 rfl) ?_
            refine lv_iload_n hx hb dX12_taken_83 rfl (lv_at hl 3 rfl) ?_
            refine lv_icmp_eq (tgt := 95) hx hb dX12_taken_84 (by decide) (fun c_84_5401 => ?_) (fun c_84_5401 => ?_)
            · refine lv_iload_n hx hb dX12_taken_95 rfl (lv_at hl 0 rfl) ?_
              refine lv_iload_n hx hb dX12_taken_96 rfl (lv_at hl 3 rfl) ?_
              refine lv_icmp_ne (tgt := 109) hx hb dX12_taken_97 (by decide) (fun c9 => absurd (c_84_5401) c9) (fun _ => ?_)
              refine lv_aload_n hx hb dX12_taken_100 rfl (lv_at hl 1 rfl) ?_
              refine gf_X12_75 hC rfl hK hP 0 rfl rfl dX12_taken_101 ?_
              refine lv_iload_n hx hb dX12_taken_104 rfl (lv_at hl 2 rfl) ?_
              refine ald hC hK hP 3 rfl (vp_in_nI (by omega) (by omega)) (k := jt) (nI_clamp (by omega)) (v := fnsf jt) rfl dX12_taken_105 ?_
              refine lv_topi (fun x5402 ex5402 => ?_)
              refine lv_goto (tgt := 111) hx hb dX12_taken_106 (by decide) ?_
              exact RP (v := x5402) hC (trivial) rfl dX12_taken_111
            · refine lv_iload_n hx hb dX12_taken_87 rfl (lv_at hl 0 rfl) ?_
              refine pS hC hK hl (m_above0 l G) si_X12_348 rfl rfl (Nat.le_of_ble_eq_true rfl) ⟨Nat.le_of_ble_eq_true rfl, Nat.le_of_ble_eq_true rfl⟩ ⟨by first | exact Nat.le_of_ble_eq_true rfl | exact Nat.zero_le _, by first | exact Nat.le_of_ble_eq_true rfl | exact Nat.zero_le _⟩ dX12_taken_88 (fun r5403 hr5403 => ?_)
              obtain rfl := hr5403
              refine lv_istore_n (lv' := [(3, .int (-1)), (0, .ref h0), (1, .int (nI jt)), (2, .int x2)]) hx hb dX12_taken_91 rfl hl (by decide) rfl (fun ls hl => ?_)
              refine lv_goto (tgt := 78) hx hb dX12_taken_92 (by decide) ?_
              refine lv_iload_n hx hb dX12_taken_78 rfl (lv_at hl 0 rfl) ?_
              refine lv_if_lt (tgt := 95) hx hb dX12_taken_79 (by decide) (fun _ => ?_) (fun c9 => absurd (by decide) c9)
              refine lv_iload_n hx hb dX12_taken_95 rfl (lv_at hl 0 rfl) ?_
              refine lv_iload_n hx hb dX12_taken_96 rfl (lv_at hl 3 rfl) ?_
              refine lv_icmp_ne (tgt := 109) hx hb dX12_taken_97 (by decide) (fun c_97_5405 => ?_) (fun c_97_5405 => ?_)
              · refine lv_bipush (v := (-13)) hx hb dX12_taken_109 (by decide) ?_
                exact RP (v := (-13)) hC (trivial) rfl dX12_taken_111
              · refine lv_aload_n hx hb dX12_taken_100 rfl (lv_at hl 1 rfl) ?_
                refine gf_X12_75 hC rfl hK hP 0 rfl rfl dX12_taken_101 ?_
                refine lv_iload_n hx hb dX12_taken_104 rfl (lv_at hl 2 rfl) ?_
                refine ald hC hK hP 3 rfl (vp_in_nI (by omega) (by omega)) (k := jt) (nI_clamp (by omega)) (v := fnsf jt) rfl dX12_taken_105 ?_
                refine lv_topi (fun x5406 ex5406 => ?_)
                refine lv_goto (tgt := 111) hx hb dX12_taken_106 (by decide) ?_
                exact RP (v := x5406) hC (trivial) rfl dX12_taken_111
        · refine lv_istore_n (lv' := [(3, .int 3), (0, .ref h0), (1, .int (nI jt)), (2, .int x2)]) hx hb dX12_taken_70 rfl hl (by decide) rfl (fun ls hl => ?_)
          refine lv_iload_n hx hb dX12_taken_71 rfl (lv_at hl 0 rfl) ?_
          refine lv_if_ge (tgt := 78) hx hb dX12_taken_72 (by decide) (fun _ => ?_) (fun c9 => absurd (by decide) c9)
          refine lv_iload_n hx hb dX12_taken_78 rfl (lv_at hl 0 rfl) ?_
          refine lv_if_lt (tgt := 95) hx hb dX12_taken_79 (by decide) (fun c9 => absurd c9 (by decide)) (fun _ => ?_)
          refine lv_iload_n hx hb dX12_taken_82 rfl (lv_at hl 0 rfl) ?_
          refine lv_iload_n hx hb dX12_taken_83 rfl (lv_at hl 3 rfl) ?_
          refine lv_icmp_eq (tgt := 95) hx hb dX12_taken_84 (by decide) (fun c_84_5407 => ?_) (fun c_84_5407 => ?_)
          · refine lv_iload_n hx hb dX12_taken_95 rfl (lv_at hl 0 rfl) ?_
            refine lv_iload_n hx hb dX12_taken_96 rfl (lv_at hl 3 rfl) ?_
            refine lv_icmp_ne (tgt := 109) hx hb dX12_taken_97 (by decide) (fun c9 => absurd (c_84_5407) c9) (fun _ => ?_)
            refine lv_aload_n hx hb dX12_taken_100 rfl (lv_at hl 1 rfl) ?_
            refine gf_X12_75 hC rfl hK hP 0 rfl rfl dX12_taken_101 ?_
            refine lv_iload_n hx hb dX12_taken_104 rfl (lv_at hl 2 rfl) ?_
            refine ald hC hK hP 3 rfl (vp_in_nI (by omega) (by omega)) (k := jt) (nI_clamp (by omega)) (v := fnsf jt) rfl dX12_taken_105 ?_
            refine lv_topi (fun x5408 ex5408 => ?_)
            refine lv_goto (tgt := 111) hx hb dX12_taken_106 (by decide) ?_
            exact RP (v := x5408) hC (trivial) rfl dX12_taken_111
          · refine lv_iload_n hx hb dX12_taken_87 rfl (lv_at hl 0 rfl) ?_
            refine pS hC hK hl (m_above3 l G) si_X12_348 rfl rfl (Nat.le_of_ble_eq_true rfl) ⟨Nat.le_of_ble_eq_true rfl, Nat.le_of_ble_eq_true rfl⟩ ⟨by first | exact Nat.le_of_ble_eq_true rfl | exact Nat.zero_le _, by first | exact Nat.le_of_ble_eq_true rfl | exact Nat.zero_le _⟩ dX12_taken_88 (fun r5409 hr5409 => ?_)
            obtain rfl := hr5409
            refine lv_istore_n (lv' := [(3, .int 1), (0, .ref h0), (1, .int (nI jt)), (2, .int x2)]) hx hb dX12_taken_91 rfl hl (by decide) rfl (fun ls hl => ?_)
            refine lv_goto (tgt := 78) hx hb dX12_taken_92 (by decide) ?_
            refine lv_iload_n hx hb dX12_taken_78 rfl (lv_at hl 0 rfl) ?_
            refine lv_if_lt (tgt := 95) hx hb dX12_taken_79 (by decide) (fun c9 => absurd c9 (by decide)) (fun _ => ?_)
            refine lv_iload_n hx hb dX12_taken_82 rfl (lv_at hl 0 rfl) ?_
            refine lv_iload_n hx hb dX12_taken_83 rfl (lv_at hl 3 rfl) ?_
            refine lv_icmp_eq (tgt := 95) hx hb dX12_taken_84 (by decide) (fun c_84_5411 => ?_) (fun c_84_5411 => ?_)
            · refine lv_iload_n hx hb dX12_taken_95 rfl (lv_at hl 0 rfl) ?_
              refine lv_iload_n hx hb dX12_taken_96 rfl (lv_at hl 3 rfl) ?_
              refine lv_icmp_ne (tgt := 109) hx hb dX12_taken_97 (by decide) (fun c9 => absurd (c_84_5411) c9) (fun _ => ?_)
              refine lv_aload_n hx hb dX12_taken_100 rfl (lv_at hl 1 rfl) ?_
              refine gf_X12_75 hC rfl hK hP 0 rfl rfl dX12_taken_101 ?_
              refine lv_iload_n hx hb dX12_taken_104 rfl (lv_at hl 2 rfl) ?_
              refine ald hC hK hP 3 rfl (vp_in_nI (by omega) (by omega)) (k := jt) (nI_clamp (by omega)) (v := fnsf jt) rfl dX12_taken_105 ?_
              refine lv_topi (fun x5412 ex5412 => ?_)
              refine lv_goto (tgt := 111) hx hb dX12_taken_106 (by decide) ?_
              exact RP (v := x5412) hC (trivial) rfl dX12_taken_111
            · refine lv_iload_n hx hb dX12_taken_87 rfl (lv_at hl 0 rfl) ?_
              refine pS hC hK hl (m_above1 l G) si_X12_348 rfl rfl (Nat.le_of_ble_eq_true rfl) ⟨Nat.le_of_ble_eq_true rfl, Nat.le_of_ble_eq_true rfl⟩ ⟨by first | exact Nat.le_of_ble_eq_true rfl | exact Nat.zero_le _, by first | exact Nat.le_of_ble_eq_true rfl | exact Nat.zero_le _⟩ dX12_taken_88 (fun r5413 hr5413 => ?_)
              obtain rfl := hr5413
              refine lv_istore_n (lv' := [(3, .int 0), (0, .ref h0), (1, .int (nI jt)), (2, .int x2)]) hx hb dX12_taken_91 rfl hl (by decide) rfl (fun ls hl => ?_)
              refine lv_goto (tgt := 78) hx hb dX12_taken_92 (by decide) ?_
              refine lv_iload_n hx hb dX12_taken_78 rfl (lv_at hl 0 rfl) ?_
              refine lv_if_lt (tgt := 95) hx hb dX12_taken_79 (by decide) (fun c9 => absurd c9 (by decide)) (fun _ => ?_)
              refine lv_iload_n hx hb dX12_taken_82 rfl (lv_at hl 0 rfl) ?_
              refine lv_iload_n hx hb dX12_taken_83 rfl (lv_at hl 3 rfl) ?_
              refine lv_icmp_eq (tgt := 95) hx hb dX12_taken_84 (by decide) (fun c_84_5415 => ?_) (fun c_84_5415 => ?_)
              · refine lv_iload_n hx hb dX12_taken_95 rfl (lv_at hl 0 rfl) ?_
                refine lv_iload_n hx hb dX12_taken_96 rfl (lv_at hl 3 rfl) ?_
                refine lv_icmp_ne (tgt := 109) hx hb dX12_taken_97 (by decide) (fun c9 => absurd (c_84_5415) c9) (fun _ => ?_)
                refine lv_aload_n hx hb dX12_taken_100 rfl (lv_at hl 1 rfl) ?_
                refine gf_X12_75 hC rfl hK hP 0 rfl rfl dX12_taken_101 ?_
                refine lv_iload_n hx hb dX12_taken_104 rfl (lv_at hl 2 rfl) ?_
                refine ald hC hK hP 3 rfl (vp_in_nI (by omega) (by omega)) (k := jt) (nI_clamp (by omega)) (v := fnsf jt) rfl dX12_taken_105 ?_
                refine lv_topi (fun x5416 ex5416 => ?_)
                refine lv_goto (tgt := 111) hx hb dX12_taken_106 (by decide) ?_
                exact RP (v := x5416) hC (trivial) rfl dX12_taken_111
              · refine lv_iload_n hx hb dX12_taken_87 rfl (lv_at hl 0 rfl) ?_
                refine pS hC hK hl (m_above0 l G) si_X12_348 rfl rfl (Nat.le_of_ble_eq_true rfl) ⟨Nat.le_of_ble_eq_true rfl, Nat.le_of_ble_eq_true rfl⟩ ⟨by first | exact Nat.le_of_ble_eq_true rfl | exact Nat.zero_le _, by first | exact Nat.le_of_ble_eq_true rfl | exact Nat.zero_le _⟩ dX12_taken_88 (fun r5417 hr5417 => ?_)
                obtain rfl := hr5417
                refine lv_istore_n (lv' := [(3, .int (-1)), (0, .ref h0), (1, .int (nI jt)), (2, .int x2)]) hx hb dX12_taken_91 rfl hl (by decide) rfl (fun ls hl => ?_)
                refine lv_goto (tgt := 78) hx hb dX12_taken_92 (by decide) ?_
                refine lv_iload_n hx hb dX12_taken_78 rfl (lv_at hl 0 rfl) ?_
                refine lv_if_lt (tgt := 95) hx hb dX12_taken_79 (by decide) (fun _ => ?_) (fun c9 => absurd (by decide) c9)
                refine lv_iload_n hx hb dX12_taken_95 rfl (lv_at hl 0 rfl) ?_
                refine lv_iload_n hx hb dX12_taken_96 rfl (lv_at hl 3 rfl) ?_
                refine lv_icmp_ne (tgt := 109) hx hb dX12_taken_97 (by decide) (fun c_97_5419 => ?_) (fun c_97_5419 => ?_)
                · refine lv_bipush (v := (-13)) hx hb dX12_taken_109 (by decide) ?_
                  exact RP (v := (-13)) hC (trivial) rfl dX12_taken_111
                · refine lv_aload_n hx hb dX12_taken_100 rfl (lv_at hl 1 rfl) ?_
                  refine gf_X12_75 hC rfl hK hP 0 rfl rfl dX12_taken_101 ?_
                  refine lv_iload_n hx hb dX12_taken_104 rfl (lv_at hl 2 rfl) ?_
                  refine ald hC hK hP 3 rfl (vp_in_nI (by omega) (by omega)) (k := jt) (nI_clamp (by omega)) (v := fnsf jt) rfl dX12_taken_105 ?_
                  refine lv_topi (fun x5420 ex5420 => ?_)
                  refine lv_goto (tgt := 111) hx hb dX12_taken_106 (by decide) ?_
                  exact RP (v := x5420) hC (trivial) rfl dX12_taken_111
        · refine lv_istore_n (lv' := [(3, .int 4), (0, .ref h0), (1, .int (nI jt)), (2, .int x2)]) hx hb dX12_taken_70 rfl hl (by decide) rfl (fun ls hl => ?_)
          refine lv_iload_n hx hb dX12_taken_71 rfl (lv_at hl 0 rfl) ?_
          refine lv_if_ge (tgt := 78) hx hb dX12_taken_72 (by decide) (fun _ => ?_) (fun c9 => absurd (by decide) c9)
          refine lv_iload_n hx hb dX12_taken_78 rfl (lv_at hl 0 rfl) ?_
          refine lv_if_lt (tgt := 95) hx hb dX12_taken_79 (by decide) (fun c9 => absurd c9 (by decide)) (fun _ => ?_)
          refine lv_iload_n hx hb dX12_taken_82 rfl (lv_at hl 0 rfl) ?_
          refine lv_iload_n hx hb dX12_taken_83 rfl (lv_at hl 3 rfl) ?_
          refine lv_icmp_eq (tgt := 95) hx hb dX12_taken_84 (by decide) (fun c_84_5421 => ?_) (fun c_84_5421 => ?_)
          · refine lv_iload_n hx hb dX12_taken_95 rfl (lv_at hl 0 rfl) ?_
            refine lv_iload_n hx hb dX12_taken_96 rfl (lv_at hl 3 rfl) ?_
            refine lv_icmp_ne (tgt := 109) hx hb dX12_taken_97 (by decide) (fun c9 => absurd (c_84_5421) c9) (fun _ => ?_)
            refine lv_aload_n hx hb dX12_taken_100 rfl (lv_at hl 1 rfl) ?_
            refine gf_X12_75 hC rfl hK hP 0 rfl rfl dX12_taken_101 ?_
            refine lv_iload_n hx hb dX12_taken_104 rfl (lv_at hl 2 rfl) ?_
            refine ald hC hK hP 3 rfl (vp_in_nI (by omega) (by omega)) (k := jt) (nI_clamp (by omega)) (v := fnsf jt) rfl dX12_taken_105 ?_
            refine lv_topi (fun x5422 ex5422 => ?_)
            refine lv_goto (tgt := 111) hx hb dX12_taken_106 (by decide) ?_
            exact RP (v := x5422) hC (trivial) rfl dX12_taken_111
          · refine lv_iload_n hx hb dX12_taken_87 rfl (lv_at hl 0 rfl) ?_
            refine pS hC hK hl (m_above4 l G) si_X12_348 rfl rfl (Nat.le_of_ble_eq_true rfl) ⟨Nat.le_of_ble_eq_true rfl, Nat.le_of_ble_eq_true rfl⟩ ⟨by first | exact Nat.le_of_ble_eq_true rfl | exact Nat.zero_le _, by first | exact Nat.le_of_ble_eq_true rfl | exact Nat.zero_le _⟩ dX12_taken_88 (fun r5423 hr5423 => ?_)
            obtain rfl := hr5423
            refine lv_istore_n (lv' := [(3, .int 0), (0, .ref h0), (1, .int (nI jt)), (2, .int x2)]) hx hb dX12_taken_91 rfl hl (by decide) rfl (fun ls hl => ?_)
            refine lv_goto (tgt := 78) hx hb dX12_taken_92 (by decide) ?_
            refine lv_iload_n hx hb dX12_taken_78 rfl (lv_at hl 0 rfl) ?_
            refine lv_if_lt (tgt := 95) hx hb dX12_taken_79 (by decide) (fun c9 => absurd c9 (by decide)) (fun _ => ?_)
            refine lv_iload_n hx hb dX12_taken_82 rfl (lv_at hl 0 rfl) ?_
            refine lv_iload_n hx hb dX12_taken_83 rfl (lv_at hl 3 rfl) ?_
            refine lv_icmp_eq (tgt := 95) hx hb dX12_taken_84 (by decide) (fun c_84_5425 => ?_) (fun c_84_5425 => ?_)
            · refine lv_iload_n hx hb dX12_taken_95 rfl (lv_at hl 0 rfl) ?_
              refine lv_iload_n hx hb dX12_taken_96 rfl (lv_at hl 3 rfl) ?_
              refine lv_icmp_ne (tgt := 109) hx hb dX12_taken_97 (by decide) (fun c9 => absurd (c_84_5425) c9) (fun _ => ?_)
              refine lv_aload_n hx hb dX12_taken_100 rfl (lv_at hl 1 rfl) ?_
              refine gf_X12_75 hC rfl hK hP 0 rfl rfl dX12_taken_101 ?_
              refine lv_iload_n hx hb dX12_taken_104 rfl (lv_at hl 2 rfl) ?_
              refine ald hC hK hP 3 rfl (vp_in_nI (by omega) (by omega)) (k := jt) (nI_clamp (by omega)) (v := fnsf jt) rfl dX12_taken_105 ?_
              refine lv_topi (fun x5426 ex5426 => ?_)
              refine lv_goto (tgt := 111) hx hb dX12_taken_106 (by decide) ?_
              exact RP (v := x5426) hC (trivial) rfl dX12_taken_111
            · refine lv_iload_n hx hb dX12_taken_87 rfl (lv_at hl 0 rfl) ?_
              refine pS hC hK hl (m_above0 l G) si_X12_348 rfl rfl (Nat.le_of_ble_eq_true rfl) ⟨Nat.le_of_ble_eq_true rfl, Nat.le_of_ble_eq_true rfl⟩ ⟨by first | exact Nat.le_of_ble_eq_true rfl | exact Nat.zero_le _, by first | exact Nat.le_of_ble_eq_true rfl | exact Nat.zero_le _⟩ dX12_taken_88 (fun r5427 hr5427 => ?_)
              obtain rfl := hr5427
              refine lv_istore_n (lv' := [(3, .int (-1)), (0, .ref h0), (1, .int (nI jt)), (2, .int x2)]) hx hb dX12_taken_91 rfl hl (by decide) rfl (fun ls hl => ?_)
              refine lv_goto (tgt := 78) hx hb dX12_taken_92 (by decide) ?_
              refine lv_iload_n hx hb dX12_taken_78 rfl (lv_at hl 0 rfl) ?_
              refine lv_if_lt (tgt := 95) hx hb dX12_taken_79 (by decide) (fun _ => ?_) (fun c9 => absurd (by decide) c9)
              refine lv_iload_n hx hb dX12_taken_95 rfl (lv_at hl 0 rfl) ?_
              refine lv_iload_n hx hb dX12_taken_96 rfl (lv_at hl 3 rfl) ?_
              refine lv_icmp_ne (tgt := 109) hx hb dX12_taken_97 (by decide) (fun c_97_5429 => ?_) (fun c_97_5429 => ?_)
              · refine lv_bipush (v := (-13)) hx hb dX12_taken_109 (by decide) ?_
                exact RP (v := (-13)) hC (trivial) rfl dX12_taken_111
              · refine lv_aload_n hx hb dX12_taken_100 rfl (lv_at hl 1 rfl) ?_
                refine gf_X12_75 hC rfl hK hP 0 rfl rfl dX12_taken_101 ?_
                refine lv_iload_n hx hb dX12_taken_104 rfl (lv_at hl 2 rfl) ?_
                refine ald hC hK hP 3 rfl (vp_in_nI (by omega) (by omega)) (k := jt) (nI_clamp (by omega)) (v := fnsf jt) rfl dX12_taken_105 ?_
                refine lv_topi (fun x5430 ex5430 => ?_)
                refine lv_goto (tgt := 111) hx hb dX12_taken_106 (by decide) ?_
                exact RP (v := x5430) hC (trivial) rfl dX12_taken_111
        · refine lv_istore_n (lv' := [(3, .int 5), (0, .ref h0), (1, .int (nI jt)), (2, .int x2)]) hx hb dX12_taken_70 rfl hl (by decide) rfl (fun ls hl => ?_)
          refine lv_iload_n hx hb dX12_taken_71 rfl (lv_at hl 0 rfl) ?_
          refine lv_if_ge (tgt := 78) hx hb dX12_taken_72 (by decide) (fun _ => ?_) (fun c9 => absurd (by decide) c9)
          refine lv_iload_n hx hb dX12_taken_78 rfl (lv_at hl 0 rfl) ?_
          refine lv_if_lt (tgt := 95) hx hb dX12_taken_79 (by decide) (fun c9 => absurd c9 (by decide)) (fun _ => ?_)
          refine lv_iload_n hx hb dX12_taken_82 rfl (lv_at hl 0 rfl) ?_
          refine lv_iload_n hx hb dX12_taken_83 rfl (lv_at hl 3 rfl) ?_
          refine lv_icmp_eq (tgt := 95) hx hb dX12_taken_84 (by decide) (fun c_84_5431 => ?_) (fun c_84_5431 => ?_)
          · refine lv_iload_n hx hb dX12_taken_95 rfl (lv_at hl 0 rfl) ?_
            refine lv_iload_n hx hb dX12_taken_96 rfl (lv_at hl 3 rfl) ?_
            refine lv_icmp_ne (tgt := 109) hx hb dX12_taken_97 (by decide) (fun c9 => absurd (c_84_5431) c9) (fun _ => ?_)
            refine lv_aload_n hx hb dX12_taken_100 rfl (lv_at hl 1 rfl) ?_
            refine gf_X12_75 hC rfl hK hP 0 rfl rfl dX12_taken_101 ?_
            refine lv_iload_n hx hb dX12_taken_104 rfl (lv_at hl 2 rfl) ?_
            refine ald hC hK hP 3 rfl (vp_in_nI (by omega) (by omega)) (k := jt) (nI_clamp (by omega)) (v := fnsf jt) rfl dX12_taken_105 ?_
            refine lv_topi (fun x5432 ex5432 => ?_)
            refine lv_goto (tgt := 111) hx hb dX12_taken_106 (by decide) ?_
            exact RP (v := x5432) hC (trivial) rfl dX12_taken_111
          · refine lv_iload_n hx hb dX12_taken_87 rfl (lv_at hl 0 rfl) ?_
            refine pS hC hK hl (m_above5 l G) si_X12_348 rfl rfl (Nat.le_of_ble_eq_true rfl) ⟨Nat.le_of_ble_eq_true rfl, Nat.le_of_ble_eq_true rfl⟩ ⟨by first | exact Nat.le_of_ble_eq_true rfl | exact Nat.zero_le _, by first | exact Nat.le_of_ble_eq_true rfl | exact Nat.zero_le _⟩ dX12_taken_88 (fun r5433 hr5433 => ?_)
            obtain rfl := hr5433
            refine lv_istore_n (lv' := [(3, .int 4), (0, .ref h0), (1, .int (nI jt)), (2, .int x2)]) hx hb dX12_taken_91 rfl hl (by decide) rfl (fun ls hl => ?_)
            refine lv_goto (tgt := 78) hx hb dX12_taken_92 (by decide) ?_
            refine lv_iload_n hx hb dX12_taken_78 rfl (lv_at hl 0 rfl) ?_
            refine lv_if_lt (tgt := 95) hx hb dX12_taken_79 (by decide) (fun c9 => absurd c9 (by decide)) (fun _ => ?_)
            refine lv_iload_n hx hb dX12_taken_82 rfl (lv_at hl 0 rfl) ?_
            refine lv_iload_n hx hb dX12_taken_83 rfl (lv_at hl 3 rfl) ?_
            refine lv_icmp_eq (tgt := 95) hx hb dX12_taken_84 (by decide) (fun c_84_5435 => ?_) (fun c_84_5435 => ?_)
            · refine lv_iload_n hx hb dX12_taken_95 rfl (lv_at hl 0 rfl) ?_
              refine lv_iload_n hx hb dX12_taken_96 rfl (lv_at hl 3 rfl) ?_
              refine lv_icmp_ne (tgt := 109) hx hb dX12_taken_97 (by decide) (fun c9 => absurd (c_84_5435) c9) (fun _ => ?_)
              refine lv_aload_n hx hb dX12_taken_100 rfl (lv_at hl 1 rfl) ?_
              refine gf_X12_75 hC rfl hK hP 0 rfl rfl dX12_taken_101 ?_
              refine lv_iload_n hx hb dX12_taken_104 rfl (lv_at hl 2 rfl) ?_
              refine ald hC hK hP 3 rfl (vp_in_nI (by omega) (by omega)) (k := jt) (nI_clamp (by omega)) (v := fnsf jt) rfl dX12_taken_105 ?_
              refine lv_topi (fun x5436 ex5436 => ?_)
              refine lv_goto (tgt := 111) hx hb dX12_taken_106 (by decide) ?_
              exact RP (v := x5436) hC (trivial) rfl dX12_taken_111
            · refine lv_iload_n hx hb dX12_taken_87 rfl (lv_at hl 0 rfl) ?_
              refine pS hC hK hl (m_above4 l G) si_X12_348 rfl rfl (Nat.le_of_ble_eq_true rfl) ⟨Nat.le_of_ble_eq_true rfl, Nat.le_of_ble_eq_true rfl⟩ ⟨by first | exact Nat.le_of_ble_eq_true rfl | exact Nat.zero_le _, by first | exact Nat.le_of_ble_eq_true rfl | exact Nat.zero_le _⟩ dX12_taken_88 (fun r5437 hr5437 => ?_)
              obtain rfl := hr5437
              refine lv_istore_n (lv' := [(3, .int 0), (0, .ref h0), (1, .int (nI jt)), (2, .int x2)]) hx hb dX12_taken_91 rfl hl (by decide) rfl (fun ls hl => ?_)
              refine lv_goto (tgt := 78) hx hb dX12_taken_92 (by decide) ?_
              refine lv_iload_n hx hb dX12_taken_78 rfl (lv_at hl 0 rfl) ?_
              refine lv_if_lt (tgt := 95) hx hb dX12_taken_79 (by decide) (fun c9 => absurd c9 (by decide)) (fun _ => ?_)
              refine lv_iload_n hx hb dX12_taken_82 rfl (lv_at hl 0 rfl) ?_
              refine lv_iload_n hx hb dX12_taken_83 rfl (lv_at hl 3 rfl) ?_
              refine lv_icmp_eq (tgt := 95) hx hb dX12_taken_84 (by decide) (fun c_84_5439 => ?_) (fun c_84_5439 => ?_)
              · refine lv_iload_n hx hb dX12_taken_95 rfl (lv_at hl 0 rfl) ?_
                refine lv_iload_n hx hb dX12_taken_96 rfl (lv_at hl 3 rfl) ?_
                refine lv_icmp_ne (tgt := 109) hx hb dX12_taken_97 (by decide) (fun c9 => absurd (c_84_5439) c9) (fun _ => ?_)
                refine lv_aload_n hx hb dX12_taken_100 rfl (lv_at hl 1 rfl) ?_
                refine gf_X12_75 hC rfl hK hP 0 rfl rfl dX12_taken_101 ?_
                refine lv_iload_n hx hb dX12_taken_104 rfl (lv_at hl 2 rfl) ?_
                refine ald hC hK hP 3 rfl (vp_in_nI (by omega) (by omega)) (k := jt) (nI_clamp (by omega)) (v := fnsf jt) rfl dX12_taken_105 ?_
                refine lv_topi (fun x5440 ex5440 => ?_)
                refine lv_goto (tgt := 111) hx hb dX12_taken_106 (by decide) ?_
                exact RP (v := x5440) hC (trivial) rfl dX12_taken_111
              · refine lv_iload_n hx hb dX12_taken_87 rfl (lv_at hl 0 rfl) ?_
                refine pS hC hK hl (m_above0 l G) si_X12_348 rfl rfl (Nat.le_of_ble_eq_true rfl) ⟨Nat.le_of_ble_eq_true rfl, Nat.le_of_ble_eq_true rfl⟩ ⟨by first | exact Nat.le_of_ble_eq_true rfl | exact Nat.zero_le _, by first | exact Nat.le_of_ble_eq_true rfl | exact Nat.zero_le _⟩ dX12_taken_88 (fun r5441 hr5441 => ?_)
                obtain rfl := hr5441
                refine lv_istore_n (lv' := [(3, .int (-1)), (0, .ref h0), (1, .int (nI jt)), (2, .int x2)]) hx hb dX12_taken_91 rfl hl (by decide) rfl (fun ls hl => ?_)
                refine lv_goto (tgt := 78) hx hb dX12_taken_92 (by decide) ?_
                refine lv_iload_n hx hb dX12_taken_78 rfl (lv_at hl 0 rfl) ?_
                refine lv_if_lt (tgt := 95) hx hb dX12_taken_79 (by decide) (fun _ => ?_) (fun c9 => absurd (by decide) c9)
                refine lv_iload_n hx hb dX12_taken_95 rfl (lv_at hl 0 rfl) ?_
                refine lv_iload_n hx hb dX12_taken_96 rfl (lv_at hl 3 rfl) ?_
                refine lv_icmp_ne (tgt := 109) hx hb dX12_taken_97 (by decide) (fun c_97_5443 => ?_) (fun c_97_5443 => ?_)
                · refine lv_bipush (v := (-13)) hx hb dX12_taken_109 (by decide) ?_
                  exact RP (v := (-13)) hC (trivial) rfl dX12_taken_111
                · refine lv_aload_n hx hb dX12_taken_100 rfl (lv_at hl 1 rfl) ?_
                  refine gf_X12_75 hC rfl hK hP 0 rfl rfl dX12_taken_101 ?_
                  refine lv_iload_n hx hb dX12_taken_104 rfl (lv_at hl 2 rfl) ?_
                  refine ald hC hK hP 3 rfl (vp_in_nI (by omega) (by omega)) (k := jt) (nI_clamp (by omega)) (v := fnsf jt) rfl dX12_taken_105 ?_
                  refine lv_topi (fun x5444 ex5444 => ?_)
                  refine lv_goto (tgt := 111) hx hb dX12_taken_106 (by decide) ?_
                  exact RP (v := x5444) hC (trivial) rfl dX12_taken_111
        · refine lv_istore_n (lv' := [(3, .int 6), (0, .ref h0), (1, .int (nI jt)), (2, .int x2)]) hx hb dX12_taken_70 rfl hl (by decide) rfl (fun ls hl => ?_)
          refine lv_iload_n hx hb dX12_taken_71 rfl (lv_at hl 0 rfl) ?_
          refine lv_if_ge (tgt := 78) hx hb dX12_taken_72 (by decide) (fun _ => ?_) (fun c9 => absurd (by decide) c9)
          refine lv_iload_n hx hb dX12_taken_78 rfl (lv_at hl 0 rfl) ?_
          refine lv_if_lt (tgt := 95) hx hb dX12_taken_79 (by decide) (fun c9 => absurd c9 (by decide)) (fun _ => ?_)
          refine lv_iload_n hx hb dX12_taken_82 rfl (lv_at hl 0 rfl) ?_
          refine lv_iload_n hx hb dX12_taken_83 rfl (lv_at hl 3 rfl) ?_
          refine lv_icmp_eq (tgt := 95) hx hb dX12_taken_84 (by decide) (fun c_84_5445 => ?_) (fun c_84_5445 => ?_)
          · refine lv_iload_n hx hb dX12_taken_95 rfl (lv_at hl 0 rfl) ?_
            refine lv_iload_n hx hb dX12_taken_96 rfl (lv_at hl 3 rfl) ?_
            refine lv_icmp_ne (tgt := 109) hx hb dX12_taken_97 (by decide) (fun c9 => absurd (c_84_5445) c9) (fun _ => ?_)
            refine lv_aload_n hx hb dX12_taken_100 rfl (lv_at hl 1 rfl) ?_
            refine gf_X12_75 hC rfl hK hP 0 rfl rfl dX12_taken_101 ?_
            refine lv_iload_n hx hb dX12_taken_104 rfl (lv_at hl 2 rfl) ?_
            refine ald hC hK hP 3 rfl (vp_in_nI (by omega) (by omega)) (k := jt) (nI_clamp (by omega)) (v := fnsf jt) rfl dX12_taken_105 ?_
            refine lv_topi (fun x5446 ex5446 => ?_)
            refine lv_goto (tgt := 111) hx hb dX12_taken_106 (by decide) ?_
            exact RP (v := x5446) hC (trivial) rfl dX12_taken_111
          · refine lv_iload_n hx hb dX12_taken_87 rfl (lv_at hl 0 rfl) ?_
            refine pS hC hK hl (m_above6 l G) si_X12_348 rfl rfl (Nat.le_of_ble_eq_true rfl) ⟨Nat.le_of_ble_eq_true rfl, Nat.le_of_ble_eq_true rfl⟩ ⟨by first | exact Nat.le_of_ble_eq_true rfl | exact Nat.zero_le _, by first | exact Nat.le_of_ble_eq_true rfl | exact Nat.zero_le _⟩ dX12_taken_88 (fun r5447 hr5447 => ?_)
            obtain rfl := hr5447
            refine lv_istore_n (lv' := [(3, .int 0), (0, .ref h0), (1, .int (nI jt)), (2, .int x2)]) hx hb dX12_taken_91 rfl hl (by decide) rfl (fun ls hl => ?_)
            refine lv_goto (tgt := 78) hx hb dX12_taken_92 (by decide) ?_
            refine lv_iload_n hx hb dX12_taken_78 rfl (lv_at hl 0 rfl) ?_
            refine lv_if_lt (tgt := 95) hx hb dX12_taken_79 (by decide) (fun c9 => absurd c9 (by decide)) (fun _ => ?_)
            refine lv_iload_n hx hb dX12_taken_82 rfl (lv_at hl 0 rfl) ?_
            refine lv_iload_n hx hb dX12_taken_83 rfl (lv_at hl 3 rfl) ?_
            refine lv_icmp_eq (tgt := 95) hx hb dX12_taken_84 (by decide) (fun c_84_5449 => ?_) (fun c_84_5449 => ?_)
            · refine lv_iload_n hx hb dX12_taken_95 rfl (lv_at hl 0 rfl) ?_
              refine lv_iload_n hx hb dX12_taken_96 rfl (lv_at hl 3 rfl) ?_
              refine lv_icmp_ne (tgt := 109) hx hb dX12_taken_97 (by decide) (fun c9 => absurd (c_84_5449) c9) (fun _ => ?_)
              refine lv_aload_n hx hb dX12_taken_100 rfl (lv_at hl 1 rfl) ?_
              refine gf_X12_75 hC rfl hK hP 0 rfl rfl dX12_taken_101 ?_
              refine lv_iload_n hx hb dX12_taken_104 rfl (lv_at hl 2 rfl) ?_
              refine ald hC hK hP 3 rfl (vp_in_nI (by omega) (by omega)) (k := jt) (nI_clamp (by omega)) (v := fnsf jt) rfl dX12_taken_105 ?_
              refine lv_topi (fun x5450 ex5450 => ?_)
              refine lv_goto (tgt := 111) hx hb dX12_taken_106 (by decide) ?_
              exact RP (v := x5450) hC (trivial) rfl dX12_taken_111
            · refine lv_iload_n hx hb dX12_taken_87 rfl (lv_at hl 0 rfl) ?_
              refine pS hC hK hl (m_above0 l G) si_X12_348 rfl rfl (Nat.le_of_ble_eq_true rfl) ⟨Nat.le_of_ble_eq_true rfl, Nat.le_of_ble_eq_true rfl⟩ ⟨by first | exact Nat.le_of_ble_eq_true rfl | exact Nat.zero_le _, by first | exact Nat.le_of_ble_eq_true rfl | exact Nat.zero_le _⟩ dX12_taken_88 (fun r5451 hr5451 => ?_)
              obtain rfl := hr5451
              refine lv_istore_n (lv' := [(3, .int (-1)), (0, .ref h0), (1, .int (nI jt)), (2, .int x2)]) hx hb dX12_taken_91 rfl hl (by decide) rfl (fun ls hl => ?_)
              refine lv_goto (tgt := 78) hx hb dX12_taken_92 (by decide) ?_
              refine lv_iload_n hx hb dX12_taken_78 rfl (lv_at hl 0 rfl) ?_
              refine lv_if_lt (tgt := 95) hx hb dX12_taken_79 (by decide) (fun _ => ?_) (fun c9 => absurd (by decide) c9)
              refine lv_iload_n hx hb dX12_taken_95 rfl (lv_at hl 0 rfl) ?_
              refine lv_iload_n hx hb dX12_taken_96 rfl (lv_at hl 3 rfl) ?_
              refine lv_icmp_ne (tgt := 109) hx hb dX12_taken_97 (by decide) (fun c_97_5453 => ?_) (fun c_97_5453 => ?_)
              · refine lv_bipush (v := (-13)) hx hb dX12_taken_109 (by decide) ?_
                exact RP (v := (-13)) hC (trivial) rfl dX12_taken_111
              · refine lv_aload_n hx hb dX12_taken_100 rfl (lv_at hl 1 rfl) ?_
                refine gf_X12_75 hC rfl hK hP 0 rfl rfl dX12_taken_101 ?_
                refine lv_iload_n hx hb dX12_taken_104 rfl (lv_at hl 2 rfl) ?_
                refine ald hC hK hP 3 rfl (vp_in_nI (by omega) (by omega)) (k := jt) (nI_clamp (by omega)) (v := fnsf jt) rfl dX12_taken_105 ?_
                refine lv_topi (fun x5454 ex5454 => ?_)
                refine lv_goto (tgt := 111) hx hb dX12_taken_106 (by decide) ?_
                exact RP (v := x5454) hC (trivial) rfl dX12_taken_111
      · refine lv_iload_n hx hb dX12_taken_40 rfl (lv_at hl 2 rfl) ?_
        refine lv_bipush (v := 10) hx hb dX12_taken_41 (by decide) ?_
        refine lv_isub hx hb dX12_taken_43 ?_
        refine lv_aload_n hx hb dX12_taken_44 rfl (lv_at hl 0 rfl) ?_
        refine gf_X12_75 hC rfl hK hP 0 rfl rfl dX12_taken_45 ?_
        refine lv_iload_n hx hb dX12_taken_48 rfl (lv_at hl 1 rfl) ?_
        refine ald hC hK hP 3 rfl (vp_in_nI (by omega) (by omega)) (k := jt) (nI_clamp (by omega)) (v := fnsf jt) rfl dX12_taken_49 ?_
        refine lv_topi (fun x5455 ex5455 => ?_)
        refine lv_icmp_ne (tgt := 62) hx hb dX12_taken_50 (by decide) (fun c_50_5456 => ?_) (fun c_50_5456 => ?_)
        · refine lv_bipush (v := (-13)) hx hb dX12_taken_62 (by decide) ?_
          exact RP (v := (-13)) hC (trivial) rfl dX12_taken_64
        · refine lv_aload_n hx hb dX12_taken_53 rfl (lv_at hl 0 rfl) ?_
          refine gf_X12_78 hC rfl hK hP 0 rfl rfl dX12_taken_54 ?_
          refine lv_iload_n hx hb dX12_taken_57 rfl (lv_at hl 1 rfl) ?_
          refine ald hC hK hP 4 rfl (vp_in_nI (by omega) (by omega)) (k := jt) (nI_clamp (by omega)) (v := fnss jt) rfl dX12_taken_58 ?_
          refine lv_topi (fun x5457 ex5457 => ?_)
          refine lv_goto (tgt := 64) hx hb dX12_taken_59 (by decide) ?_
          exact RP (v := x5457) hC (trivial) rfl dX12_taken_64
    · refine lv_if_ne (tgt := 30) hx hb dX12_taken_14 (by decide) (fun c9 => absurd (by decide) c9) (fun _ => ?_)
      refine lv_iload_n hx hb dX12_taken_17 rfl (lv_at hl 2 rfl) ?_
      refine lv_bipush (v := 10) hx hb dX12_taken_18 (by decide) ?_
      refine lv_bipush (v := 14) hx hb dX12_taken_20 (by decide) ?_
      refine pS hC hK hl (m_within l G x2 10 14) si_X12_84 rfl rfl (Nat.le_of_ble_eq_true rfl) ⟨Nat.le_of_ble_eq_true rfl, Nat.le_of_ble_eq_true rfl⟩ ⟨by first | exact Nat.le_of_ble_eq_true rfl | exact Nat.zero_le _, by first | exact Nat.le_of_ble_eq_true rfl | exact Nat.zero_le _⟩ dX12_taken_22 (fun r5458 hr5458 => ?_)
      rcases hr5458 with ⟨rfl, a5459⟩ | ⟨rfl, a5459⟩
      · refine lv_if_ne (tgt := 30) hx hb dX12_taken_25 (by decide) (fun _ => ?_) (fun c9 => absurd c9 (by decide))
        obtain ⟨jt, hjt, rfl⟩ := Wi_nat (N := 3) (by decide) a5380
        refine lv_aload_n hx hb dX12_taken_30 rfl (lv_at hl 0 rfl) ?_
        refine gf_X12_72 hC rfl hK hP 0 rfl rfl dX12_taken_31 ?_
        refine lv_iload_n hx hb dX12_taken_34 rfl (lv_at hl 1 rfl) ?_
        refine ald hC hK hP 2 rfl (vp_in_nI (by omega) (by omega)) (k := jt) (nI_clamp (by omega)) (v := fnsh jt) rfl dX12_taken_35 ?_
        refine lv_topi (fun x5460 ex5460 => ?_)
        refine lv_iconst (v := 4) hx hb dX12_taken_36 (by decide) ?_
        refine lv_icmp_ne (tgt := 65) hx hb dX12_taken_37 (by decide) (fun c_37_5461 => ?_) (fun c_37_5461 => ?_)
        · refine lv_aload_n hx hb dX12_taken_65 rfl (lv_at hl 0 rfl) ?_
          refine lv_iload_n hx hb dX12_taken_66 rfl (lv_at hl 1 rfl) ?_
          refine pV hC hK hl hP hD (m_kindOn l G h0 jt nw nk mhasKept nt mtaped nr mrowMany mroundOf mroundFrom mouts nm mfromHour mtoHour ns mfrom mto msort misFault mdeep mcoded mlines nl nc nF np ntr nb mbestCost nso nsi nit nsh nsf nss nrc mtraced mdealer mnumber mwhose msize misParted fnw fnsh fnsf (by omega) (hN)) si_X12_345 [0, 1, 2, 3] rfl rfl (by decide) rfl rfl rfl rfl rfl (Nat.le_of_ble_eq_true rfl) ⟨Nat.le_of_ble_eq_true rfl, Nat.le_of_ble_eq_true rfl⟩ ⟨by first | exact Nat.le_of_ble_eq_true rfl | exact Nat.zero_le _, by first | exact Nat.le_of_ble_eq_true rfl | exact Nat.zero_le _⟩ dX12_taken_67 (fun r5462 hr5462 => ?_)
          rcases hr5462 with rfl | ⟨rfl, a5463⟩ | ⟨rfl, a5463⟩ | ⟨rfl, a5463⟩ | ⟨rfl, a5463⟩ | ⟨rfl, a5463⟩ | ⟨rfl, a5463⟩
          · refine lv_istore_n (lv' := [(3, .int (-1)), (0, .ref h0), (1, .int (nI jt)), (2, .int x2)]) hx hb dX12_taken_70 rfl hl (by decide) rfl (fun ls hl => ?_)
            refine lv_iload_n hx hb dX12_taken_71 rfl (lv_at hl 0 rfl) ?_
            refine lv_if_ge (tgt := 78) hx hb dX12_taken_72 (by decide) (fun c9 => absurd c9 (by decide)) (fun _ => ?_)
            refine lv_bipush (v := (-11)) hx hb dX12_taken_75 (by decide) ?_
            exact RP (v := (-11)) hC (trivial) rfl dX12_taken_77
          · refine lv_istore_n (lv' := [(3, .int 1), (0, .ref h0), (1, .int (nI jt)), (2, .int x2)]) hx hb dX12_taken_70 rfl hl (by decide) rfl (fun ls hl => ?_)
            refine lv_iload_n hx hb dX12_taken_71 rfl (lv_at hl 0 rfl) ?_
            refine lv_if_ge (tgt := 78) hx hb dX12_taken_72 (by decide) (fun _ => ?_) (fun c9 => absurd (by decide) c9)
            refine lv_iload_n hx hb dX12_taken_78 rfl (lv_at hl 0 rfl) ?_
            refine lv_if_lt (tgt := 95) hx hb dX12_taken_79 (by decide) (fun c9 => absurd c9 (by decide)) (fun _ => ?_)
            refine lv_iload_n hx hb dX12_taken_82 rfl (lv_at hl 0 rfl) ?_
            refine lv_iload_n hx hb dX12_taken_83 rfl (lv_at hl 3 rfl) ?_
            refine lv_icmp_eq (tgt := 95) hx hb dX12_taken_84 (by decide) (fun c_84_5464 => ?_) (fun c_84_5464 => ?_)
            · refine lv_iload_n hx hb dX12_taken_95 rfl (lv_at hl 0 rfl) ?_
              refine lv_iload_n hx hb dX12_taken_96 rfl (lv_at hl 3 rfl) ?_
              refine lv_icmp_ne (tgt := 109) hx hb dX12_taken_97 (by decide) (fun c9 => absurd (c_84_5464) c9) (fun _ => ?_)
              refine lv_aload_n hx hb dX12_taken_100 rfl (lv_at hl 1 rfl) ?_
              refine gf_X12_75 hC rfl hK hP 0 rfl rfl dX12_taken_101 ?_
              refine lv_iload_n hx hb dX12_taken_104 rfl (lv_at hl 2 rfl) ?_
              refine ald hC hK hP 3 rfl (vp_in_nI (by omega) (by omega)) (k := jt) (nI_clamp (by omega)) (v := fnsf jt) rfl dX12_taken_105 ?_
              refine lv_topi (fun x5465 ex5465 => ?_)
              refine lv_goto (tgt := 111) hx hb dX12_taken_106 (by decide) ?_
              exact RP (v := x5465) hC (trivial) rfl dX12_taken_111
            · refine lv_iload_n hx hb dX12_taken_87 rfl (lv_at hl 0 rfl) ?_
              refine pS hC hK hl (m_above1 l G) si_X12_348 rfl rfl (Nat.le_of_ble_eq_true rfl) ⟨Nat.le_of_ble_eq_true rfl, Nat.le_of_ble_eq_true rfl⟩ ⟨by first | exact Nat.le_of_ble_eq_true rfl | exact Nat.zero_le _, by first | exact Nat.le_of_ble_eq_true rfl | exact Nat.zero_le _⟩ dX12_taken_88 (fun r5466 hr5466 => ?_)
              obtain rfl := hr5466
              refine lv_istore_n (lv' := [(3, .int 0), (0, .ref h0), (1, .int (nI jt)), (2, .int x2)]) hx hb dX12_taken_91 rfl hl (by decide) rfl (fun ls hl => ?_)
              refine lv_goto (tgt := 78) hx hb dX12_taken_92 (by decide) ?_
              refine lv_iload_n hx hb dX12_taken_78 rfl (lv_at hl 0 rfl) ?_
              refine lv_if_lt (tgt := 95) hx hb dX12_taken_79 (by decide) (fun c9 => absurd c9 (by decide)) (fun _ => ?_)
              refine lv_iload_n hx hb dX12_taken_82 rfl (lv_at hl 0 rfl) ?_
              refine lv_iload_n hx hb dX12_taken_83 rfl (lv_at hl 3 rfl) ?_
              refine lv_icmp_eq (tgt := 95) hx hb dX12_taken_84 (by decide) (fun c_84_5468 => ?_) (fun c_84_5468 => ?_)
              · refine lv_iload_n hx hb dX12_taken_95 rfl (lv_at hl 0 rfl) ?_
                refine lv_iload_n hx hb dX12_taken_96 rfl (lv_at hl 3 rfl) ?_
                refine lv_icmp_ne (tgt := 109) hx hb dX12_taken_97 (by decide) (fun c9 => absurd (c_84_5468) c9) (fun _ => ?_)
                refine lv_aload_n hx hb dX12_taken_100 rfl (lv_at hl 1 rfl) ?_
                refine gf_X12_75 hC rfl hK hP 0 rfl rfl dX12_taken_101 ?_
                refine lv_iload_n hx hb dX12_taken_104 rfl (lv_at hl 2 rfl) ?_
                refine ald hC hK hP 3 rfl (vp_in_nI (by omega) (by omega)) (k := jt) (nI_clamp (by omega)) (v := fnsf jt) rfl dX12_taken_105 ?_
                refine lv_topi (fun x5469 ex5469 => ?_)
                refine lv_goto (tgt := 111) hx hb dX12_taken_106 (by decide) ?_
                exact RP (v := x5469) hC (trivial) rfl dX12_taken_111
              · refine lv_iload_n hx hb dX12_taken_87 rfl (lv_at hl 0 rfl) ?_
                refine pS hC hK hl (m_above0 l G) si_X12_348 rfl rfl (Nat.le_of_ble_eq_true rfl) ⟨Nat.le_of_ble_eq_true rfl, Nat.le_of_ble_eq_true rfl⟩ ⟨by first | exact Nat.le_of_ble_eq_true rfl | exact Nat.zero_le _, by first | exact Nat.le_of_ble_eq_true rfl | exact Nat.zero_le _⟩ dX12_taken_88 (fun r5470 hr5470 => ?_)
                obtain rfl := hr5470
                refine lv_istore_n (lv' := [(3, .int (-1)), (0, .ref h0), (1, .int (nI jt)), (2, .int x2)]) hx hb dX12_taken_91 rfl hl (by decide) rfl (fun ls hl => ?_)
                refine lv_goto (tgt := 78) hx hb dX12_taken_92 (by decide) ?_
                refine lv_iload_n hx hb dX12_taken_78 rfl (lv_at hl 0 rfl) ?_
                refine lv_if_lt (tgt := 95) hx hb dX12_taken_79 (by decide) (fun _ => ?_) (fun c9 => absurd (by decide) c9)
                refine lv_iload_n hx hb dX12_taken_95 rfl (lv_at hl 0 rfl) ?_
                refine lv_iload_n hx hb dX12_taken_96 rfl (lv_at hl 3 rfl) ?_
                refine lv_icmp_ne (tgt := 109) hx hb dX12_taken_97 (by decide) (fun c_97_5472 => ?_) (fun c_97_5472 => ?_)
                · refine lv_bipush (v := (-13)) hx hb dX12_taken_109 (by decide) ?_
                  exact RP (v := (-13)) hC (trivial) rfl dX12_taken_111
                · refine lv_aload_n hx hb dX12_taken_100 rfl (lv_at hl 1 rfl) ?_
                  refine gf_X12_75 hC rfl hK hP 0 rfl rfl dX12_taken_101 ?_
                  refine lv_iload_n hx hb dX12_taken_104 rfl (lv_at hl 2 rfl) ?_
                  refine ald hC hK hP 3 rfl (vp_in_nI (by omega) (by omega)) (k := jt) (nI_clamp (by omega)) (v := fnsf jt) rfl dX12_taken_105 ?_
                  refine lv_topi (fun x5473 ex5473 => ?_)
                  refine lv_goto (tgt := 111) hx hb dX12_taken_106 (by decide) ?_
                  exact RP (v := x5473) hC (trivial) rfl dX12_taken_111
          · refine lv_istore_n (lv' := [(3, .int 2), (0, .ref h0), (1, .int (nI jt)), (2, .int x2)]) hx hb dX12_taken_70 rfl hl (by decide) rfl (fun ls hl => ?_)
            refine lv_iload_n hx hb dX12_taken_71 rfl (lv_at hl 0 rfl) ?_
            refine lv_if_ge (tgt := 78) hx hb dX12_taken_72 (by decide) (fun _ => ?_) (fun c9 => absurd (by decide) c9)
            refine lv_iload_n hx hb dX12_taken_78 rfl (lv_at hl 0 rfl) ?_
            refine lv_if_lt (tgt := 95) hx hb dX12_taken_79 (by decide) (fun c9 => absurd c9 (by decide)) (fun _ => ?_)
            refine lv_iload_n hx hb dX12_taken_82 rfl (lv_at hl 0 rfl) ?_
            refine lv_iload_n hx hb dX12_taken_83 rfl (lv_at hl 3 rfl) ?_
            refine lv_icmp_eq (tgt := 95) hx hb dX12_taken_84 (by decide) (fun c_84_5474 => ?_) (fun c_84_5474 => ?_)
            · refine lv_iload_n hx hb dX12_taken_95 rfl (lv_at hl 0 rfl) ?_
              refine lv_iload_n hx hb dX12_taken_96 rfl (lv_at hl 3 rfl) ?_
              refine lv_icmp_ne (tgt := 109) hx hb dX12_taken_97 (by decide) (fun c9 => absurd (c_84_5474) c9) (fun _ => ?_)
              refine lv_aload_n hx hb dX12_taken_100 rfl (lv_at hl 1 rfl) ?_
              refine gf_X12_75 hC rfl hK hP 0 rfl rfl dX12_taken_101 ?_
              refine lv_iload_n hx hb dX12_taken_104 rfl (lv_at hl 2 rfl) ?_
              refine ald hC hK hP 3 rfl (vp_in_nI (by omega) (by omega)) (k := jt) (nI_clamp (by omega)) (v := fnsf jt) rfl dX12_taken_105 ?_
              refine lv_topi (fun x5475 ex5475 => ?_)
              refine lv_goto (tgt := 111) hx hb dX12_taken_106 (by decide) ?_
              exact RP (v := x5475) hC (trivial) rfl dX12_taken_111
            · refine lv_iload_n hx hb dX12_taken_87 rfl (lv_at hl 0 rfl) ?_
              refine pS hC hK hl (m_above2 l G) si_X12_348 rfl rfl (Nat.le_of_ble_eq_true rfl) ⟨Nat.le_of_ble_eq_true rfl, Nat.le_of_ble_eq_true rfl⟩ ⟨by first | exact Nat.le_of_ble_eq_true rfl | exact Nat.zero_le _, by first | exact Nat.le_of_ble_eq_true rfl | exact Nat.zero_le _⟩ dX12_taken_88 (fun r5476 hr5476 => ?_)
              obtain rfl := hr5476
              refine lv_istore_n (lv' := [(3, .int 0), (0, .ref h0), (1, .int (nI jt)), (2, .int x2)]) hx hb dX12_taken_91 rfl hl (by decide) rfl (fun ls hl => ?_)
              refine lv_goto (tgt := 78) hx hb dX12_taken_92 (by decide) ?_
              refine lv_iload_n hx hb dX12_taken_78 rfl (lv_at hl 0 rfl) ?_
              refine lv_if_lt (tgt := 95) hx hb dX12_taken_79 (by decide) (fun c9 => absurd c9 (by decide)) (fun _ => ?_)
              refine lv_iload_n hx hb dX12_taken_82 rfl (lv_at hl 0 rfl) ?_
              refine lv_iload_n hx hb dX12_taken_83 rfl (lv_at hl 3 rfl) ?_
              refine lv_icmp_eq (tgt := 95) hx hb dX12_taken_84 (by decide) (fun c_84_5478 => ?_) (fun c_84_5478 => ?_)
              · refine lv_iload_n hx hb dX12_taken_95 rfl (lv_at hl 0 rfl) ?_
                refine lv_iload_n hx hb dX12_taken_96 rfl (lv_at hl 3 rfl) ?_
                refine lv_icmp_ne (tgt := 109) hx hb dX12_taken_97 (by decide) (fun c9 => absurd (c_84_5478) c9) (fun _ => ?_)
                refine lv_aload_n hx hb dX12_taken_100 rfl (lv_at hl 1 rfl) ?_
                refine gf_X12_75 hC rfl hK hP 0 rfl rfl dX12_taken_101 ?_
                refine lv_iload_n hx hb dX12_taken_104 rfl (lv_at hl 2 rfl) ?_
                refine ald hC hK hP 3 rfl (vp_in_nI (by omega) (by omega)) (k := jt) (nI_clamp (by omega)) (v := fnsf jt) rfl dX12_taken_105 ?_
                refine lv_topi (fun x5479 ex5479 => ?_)
                refine lv_goto (tgt := 111) hx hb dX12_taken_106 (by decide) ?_
                exact RP (v := x5479) hC (trivial) rfl dX12_taken_111
              · refine lv_iload_n hx hb dX12_taken_87 rfl (lv_at hl 0 rfl) ?_
                refine pS hC hK hl (m_above0 l G) si_X12_348 rfl rfl (Nat.le_of_ble_eq_true rfl) ⟨Nat.le_of_ble_eq_true rfl, Nat.le_of_ble_eq_true rfl⟩ ⟨by first | exact Nat.le_of_ble_eq_true rfl | exact Nat.zero_le _, by first | exact Nat.le_of_ble_eq_true rfl | exact Nat.zero_le _⟩ dX12_taken_88 (fun r5480 hr5480 => ?_)
                obtain rfl := hr5480
                refine lv_istore_n (lv' := [(3, .int (-1)), (0, .ref h0), (1, .int (nI jt)), (2, .int x2)]) hx hb dX12_taken_91 rfl hl (by decide) rfl (fun ls hl => ?_)
                refine lv_goto (tgt := 78) hx hb dX12_taken_92 (by decide) ?_
                refine lv_iload_n hx hb dX12_taken_78 rfl (lv_at hl 0 rfl) ?_
                refine lv_if_lt (tgt := 95) hx hb dX12_taken_79 (by decide) (fun _ => ?_) (fun c9 => absurd (by decide) c9)
                refine lv_iload_n hx hb dX12_taken_95 rfl (lv_at hl 0 rfl) ?_
                refine lv_iload_n hx hb dX12_taken_96 rfl (lv_at hl 3 rfl) ?_
                refine lv_icmp_ne (tgt := 109) hx hb dX12_taken_97 (by decide) (fun c_97_5482 => ?_) (fun c_97_5482 => ?_)
                · refine lv_bipush (v := (-13)) hx hb dX12_taken_109 (by decide) ?_
                  exact RP (v := (-13)) hC (trivial) rfl dX12_taken_111
                · refine lv_aload_n hx hb dX12_taken_100 rfl (lv_at hl 1 rfl) ?_
                  refine gf_X12_75 hC rfl hK hP 0 rfl rfl dX12_taken_101 ?_
                  refine lv_iload_n hx hb dX12_taken_104 rfl (lv_at hl 2 rfl) ?_
                  refine ald hC hK hP 3 rfl (vp_in_nI (by omega) (by omega)) (k := jt) (nI_clamp (by omega)) (v := fnsf jt) rfl dX12_taken_105 ?_
                  refine lv_topi (fun x5483 ex5483 => ?_)
                  refine lv_goto (tgt := 111) hx hb dX12_taken_106 (by decide) ?_
                  exact RP (v := x5483) hC (trivial) rfl dX12_taken_111
          · refine lv_istore_n (lv' := [(3, .int 3), (0, .ref h0), (1, .int (nI jt)), (2, .int x2)]) hx hb dX12_taken_70 rfl hl (by decide) rfl (fun ls hl => ?_)
            refine lv_iload_n hx hb dX12_taken_71 rfl (lv_at hl 0 rfl) ?_
            refine lv_if_ge (tgt := 78) hx hb dX12_taken_72 (by decide) (fun _ => ?_) (fun c9 => absurd (by decide) c9)
            refine lv_iload_n hx hb dX12_taken_78 rfl (lv_at hl 0 rfl) ?_
            refine lv_if_lt (tgt := 95) hx hb dX12_taken_79 (by decide) (fun c9 => absurd c9 (by decide)) (fun _ => ?_)
            refine lv_iload_n hx hb dX12_taken_82 rfl (lv_at hl 0 rfl) ?_
            refine lv_iload_n hx hb dX12_taken_83 rfl (lv_at hl 3 rfl) ?_
            refine lv_icmp_eq (tgt := 95) hx hb dX12_taken_84 (by decide) (fun c_84_5484 => ?_) (fun c_84_5484 => ?_)
            · refine lv_iload_n hx hb dX12_taken_95 rfl (lv_at hl 0 rfl) ?_
              refine lv_iload_n hx hb dX12_taken_96 rfl (lv_at hl 3 rfl) ?_
              refine lv_icmp_ne (tgt := 109) hx hb dX12_taken_97 (by decide) (fun c9 => absurd (c_84_5484) c9) (fun _ => ?_)
              refine lv_aload_n hx hb dX12_taken_100 rfl (lv_at hl 1 rfl) ?_
              refine gf_X12_75 hC rfl hK hP 0 rfl rfl dX12_taken_101 ?_
              refine lv_iload_n hx hb dX12_taken_104 rfl (lv_at hl 2 rfl) ?_
              refine ald hC hK hP 3 rfl (vp_in_nI (by omega) (by omega)) (k := jt) (nI_clamp (by omega)) (v := fnsf jt) rfl dX12_taken_105 ?_
              refine lv_topi (fun x5485 ex5485 => ?_)
              refine lv_goto (tgt := 111) hx hb dX12_taken_106 (by decide) ?_
              exact RP (v := x5485) hC (trivial) rfl dX12_taken_111
            · refine lv_iload_n hx hb dX12_taken_87 rfl (lv_at hl 0 rfl) ?_
              refine pS hC hK hl (m_above3 l G) si_X12_348 rfl rfl (Nat.le_of_ble_eq_true rfl) ⟨Nat.le_of_ble_eq_true rfl, Nat.le_of_ble_eq_true rfl⟩ ⟨by first | exact Nat.le_of_ble_eq_true rfl | exact Nat.zero_le _, by first | exact Nat.le_of_ble_eq_true rfl | exact Nat.zero_le _⟩ dX12_taken_88 (fun r5486 hr5486 => ?_)
              obtain rfl := hr5486
              refine lv_istore_n (lv' := [(3, .int 1), (0, .ref h0), (1, .int (nI jt)), (2, .int x2)]) hx hb dX12_taken_91 rfl hl (by decide) rfl (fun ls hl => ?_)
              refine lv_goto (tgt := 78) hx hb dX12_taken_92 (by decide) ?_
              refine lv_iload_n hx hb dX12_taken_78 rfl (lv_at hl 0 rfl) ?_
              refine lv_if_lt (tgt := 95) hx hb dX12_taken_79 (by decide) (fun c9 => absurd c9 (by decide)) (fun _ => ?_)
              refine lv_iload_n hx hb dX12_taken_82 rfl (lv_at hl 0 rfl) ?_
              refine lv_iload_n hx hb dX12_taken_83 rfl (lv_at hl 3 rfl) ?_
              refine lv_icmp_eq (tgt := 95) hx hb dX12_taken_84 (by decide) (fun c_84_5488 => ?_) (fun c_84_5488 => ?_)
              · refine lv_iload_n hx hb dX12_taken_95 rfl (lv_at hl 0 rfl) ?_
                refine lv_iload_n hx hb dX12_taken_96 rfl (lv_at hl 3 rfl) ?_
                refine lv_icmp_ne (tgt := 109) hx hb dX12_taken_97 (by decide) (fun c9 => absurd (c_84_5488) c9) (fun _ => ?_)
                refine lv_aload_n hx hb dX12_taken_100 rfl (lv_at hl 1 rfl) ?_
                refine gf_X12_75 hC rfl hK hP 0 rfl rfl dX12_taken_101 ?_
                refine lv_iload_n hx hb dX12_taken_104 rfl (lv_at hl 2 rfl) ?_
                refine ald hC hK hP 3 rfl (vp_in_nI (by omega) (by omega)) (k := jt) (nI_clamp (by omega)) (v := fnsf jt) rfl dX12_taken_105 ?_
                refine lv_topi (fun x5489 ex5489 => ?_)
                refine lv_goto (tgt := 111) hx hb dX12_taken_106 (by decide) ?_
                exact RP (v := x5489) hC (trivial) rfl dX12_taken_111
              · refine lv_iload_n hx hb dX12_taken_87 rfl (lv_at hl 0 rfl) ?_
                refine pS hC hK hl (m_above1 l G) si_X12_348 rfl rfl (Nat.le_of_ble_eq_true rfl) ⟨Nat.le_of_ble_eq_true rfl, Nat.le_of_ble_eq_true rfl⟩ ⟨by first | exact Nat.le_of_ble_eq_true rfl | exact Nat.zero_le _, by first | exact Nat.le_of_ble_eq_true rfl | exact Nat.zero_le _⟩ dX12_taken_88 (fun r5490 hr5490 => ?_)
                obtain rfl := hr5490
                refine lv_istore_n (lv' := [(3, .int 0), (0, .ref h0), (1, .int (nI jt)), (2, .int x2)]) hx hb dX12_taken_91 rfl hl (by decide) rfl (fun ls hl => ?_)
                refine lv_goto (tgt := 78) hx hb dX12_taken_92 (by decide) ?_
                refine lv_iload_n hx hb dX12_taken_78 rfl (lv_at hl 0 rfl) ?_
                refine lv_if_lt (tgt := 95) hx hb dX12_taken_79 (by decide) (fun c9 => absurd c9 (by decide)) (fun _ => ?_)
                refine lv_iload_n hx hb dX12_taken_82 rfl (lv_at hl 0 rfl) ?_
                refine lv_iload_n hx hb dX12_taken_83 rfl (lv_at hl 3 rfl) ?_
                refine lv_icmp_eq (tgt := 95) hx hb dX12_taken_84 (by decide) (fun c_84_5492 => ?_) (fun c_84_5492 => ?_)
                · refine lv_iload_n hx hb dX12_taken_95 rfl (lv_at hl 0 rfl) ?_
                  refine lv_iload_n hx hb dX12_taken_96 rfl (lv_at hl 3 rfl) ?_
                  refine lv_icmp_ne (tgt := 109) hx hb dX12_taken_97 (by decide) (fun c9 => absurd (c_84_5492) c9) (fun _ => ?_)
                  refine lv_aload_n hx hb dX12_taken_100 rfl (lv_at hl 1 rfl) ?_
                  refine gf_X12_75 hC rfl hK hP 0 rfl rfl dX12_taken_101 ?_
                  refine lv_iload_n hx hb dX12_taken_104 rfl (lv_at hl 2 rfl) ?_
                  refine ald hC hK hP 3 rfl (vp_in_nI (by omega) (by omega)) (k := jt) (nI_clamp (by omega)) (v := fnsf jt) rfl dX12_taken_105 ?_
                  refine lv_topi (fun x5493 ex5493 => ?_)
                  refine lv_goto (tgt := 111) hx hb dX12_taken_106 (by decide) ?_
                  exact RP (v := x5493) hC (trivial) rfl dX12_taken_111
                · refine lv_iload_n hx hb dX12_taken_87 rfl (lv_at hl 0 rfl) ?_
                  refine pS hC hK hl (m_above0 l G) si_X12_348 rfl rfl (Nat.le_of_ble_eq_true rfl) ⟨Nat.le_of_ble_eq_true rfl, Nat.le_of_ble_eq_true rfl⟩ ⟨by first | exact Nat.le_of_ble_eq_true rfl | exact Nat.zero_le _, by first | exact Nat.le_of_ble_eq_true rfl | exact Nat.zero_le _⟩ dX12_taken_88 (fun r5494 hr5494 => ?_)
                  obtain rfl := hr5494
                  refine lv_istore_n (lv' := [(3, .int (-1)), (0, .ref h0), (1, .int (nI jt)), (2, .int x2)]) hx hb dX12_taken_91 rfl hl (by decide) rfl (fun ls hl => ?_)
                  refine lv_goto (tgt := 78) hx hb dX12_taken_92 (by decide) ?_
                  refine lv_iload_n hx hb dX12_taken_78 rfl (lv_at hl 0 rfl) ?_
                  refine lv_if_lt (tgt := 95) hx hb dX12_taken_79 (by decide) (fun _ => ?_) (fun c9 => absurd (by decide) c9)
                  refine lv_iload_n hx hb dX12_taken_95 rfl (lv_at hl 0 rfl) ?_
                  refine lv_iload_n hx hb dX12_taken_96 rfl (lv_at hl 3 rfl) ?_
                  refine lv_icmp_ne (tgt := 109) hx hb dX12_taken_97 (by decide) (fun c_97_5496 => ?_) (fun c_97_5496 => ?_)
                  · refine lv_bipush (v := (-13)) hx hb dX12_taken_109 (by decide) ?_
                    exact RP (v := (-13)) hC (trivial) rfl dX12_taken_111
                  · refine lv_aload_n hx hb dX12_taken_100 rfl (lv_at hl 1 rfl) ?_
                    refine gf_X12_75 hC rfl hK hP 0 rfl rfl dX12_taken_101 ?_
                    refine lv_iload_n hx hb dX12_taken_104 rfl (lv_at hl 2 rfl) ?_
                    refine ald hC hK hP 3 rfl (vp_in_nI (by omega) (by omega)) (k := jt) (nI_clamp (by omega)) (v := fnsf jt) rfl dX12_taken_105 ?_
                    refine lv_topi (fun x5497 ex5497 => ?_)
                    refine lv_goto (tgt := 111) hx hb dX12_taken_106 (by decide) ?_
                    exact RP (v := x5497) hC (trivial) rfl dX12_taken_111
          · refine lv_istore_n (lv' := [(3, .int 4), (0, .ref h0), (1, .int (nI jt)), (2, .int x2)]) hx hb dX12_taken_70 rfl hl (by decide) rfl (fun ls hl => ?_)
            refine lv_iload_n hx hb dX12_taken_71 rfl (lv_at hl 0 rfl) ?_
            refine lv_if_ge (tgt := 78) hx hb dX12_taken_72 (by decide) (fun _ => ?_) (fun c9 => absurd (by decide) c9)
            refine lv_iload_n hx hb dX12_taken_78 rfl (lv_at hl 0 rfl) ?_
            refine lv_if_lt (tgt := 95) hx hb dX12_taken_79 (by decide) (fun c9 => absurd c9 (by decide)) (fun _ => ?_)
            refine lv_iload_n hx hb dX12_taken_82 rfl (lv_at hl 0 rfl) ?_
            refine lv_iload_n hx hb dX12_taken_83 rfl (lv_at hl 3 rfl) ?_
            refine lv_icmp_eq (tgt := 95) hx hb dX12_taken_84 (by decide) (fun c_84_5498 => ?_) (fun c_84_5498 => ?_)
            · refine lv_iload_n hx hb dX12_taken_95 rfl (lv_at hl 0 rfl) ?_
              refine lv_iload_n hx hb dX12_taken_96 rfl (lv_at hl 3 rfl) ?_
              refine lv_icmp_ne (tgt := 109) hx hb dX12_taken_97 (by decide) (fun c9 => absurd (c_84_5498) c9) (fun _ => ?_)
              refine lv_aload_n hx hb dX12_taken_100 rfl (lv_at hl 1 rfl) ?_
              refine gf_X12_75 hC rfl hK hP 0 rfl rfl dX12_taken_101 ?_
              refine lv_iload_n hx hb dX12_taken_104 rfl (lv_at hl 2 rfl) ?_
              refine ald hC hK hP 3 rfl (vp_in_nI (by omega) (by omega)) (k := jt) (nI_clamp (by omega)) (v := fnsf jt) rfl dX12_taken_105 ?_
              refine lv_topi (fun x5499 ex5499 => ?_)
              refine lv_goto (tgt := 111) hx hb dX12_taken_106 (by decide) ?_
              exact RP (v := x5499) hC (trivial) rfl dX12_taken_111
            · refine lv_iload_n hx hb dX12_taken_87 rfl (lv_at hl 0 rfl) ?_
              refine pS hC hK hl (m_above4 l G) si_X12_348 rfl rfl (Nat.le_of_ble_eq_true rfl) ⟨Nat.le_of_ble_eq_true rfl, Nat.le_of_ble_eq_true rfl⟩ ⟨by first | exact Nat.le_of_ble_eq_true rfl | exact Nat.zero_le _, by first | exact Nat.le_of_ble_eq_true rfl | exact Nat.zero_le _⟩ dX12_taken_88 (fun r5500 hr5500 => ?_)
              obtain rfl := hr5500
              refine lv_istore_n (lv' := [(3, .int 0), (0, .ref h0), (1, .int (nI jt)), (2, .int x2)]) hx hb dX12_taken_91 rfl hl (by decide) rfl (fun ls hl => ?_)
              refine lv_goto (tgt := 78) hx hb dX12_taken_92 (by decide) ?_
              refine lv_iload_n hx hb dX12_taken_78 rfl (lv_at hl 0 rfl) ?_
              refine lv_if_lt (tgt := 95) hx hb dX12_taken_79 (by decide) (fun c9 => absurd c9 (by decide)) (fun _ => ?_)
              refine lv_iload_n hx hb dX12_taken_82 rfl (lv_at hl 0 rfl) ?_
              refine lv_iload_n hx hb dX12_taken_83 rfl (lv_at hl 3 rfl) ?_
              refine lv_icmp_eq (tgt := 95) hx hb dX12_taken_84 (by decide) (fun c_84_5502 => ?_) (fun c_84_5502 => ?_)
              · refine lv_iload_n hx hb dX12_taken_95 rfl (lv_at hl 0 rfl) ?_
                refine lv_iload_n hx hb dX12_taken_96 rfl (lv_at hl 3 rfl) ?_
                refine lv_icmp_ne (tgt := 109) hx hb dX12_taken_97 (by decide) (fun c9 => absurd (c_84_5502) c9) (fun _ => ?_)
                refine lv_aload_n hx hb dX12_taken_100 rfl (lv_at hl 1 rfl) ?_
                refine gf_X12_75 hC rfl hK hP 0 rfl rfl dX12_taken_101 ?_
                refine lv_iload_n hx hb dX12_taken_104 rfl (lv_at hl 2 rfl) ?_
                refine ald hC hK hP 3 rfl (vp_in_nI (by omega) (by omega)) (k := jt) (nI_clamp (by omega)) (v := fnsf jt) rfl dX12_taken_105 ?_
                refine lv_topi (fun x5503 ex5503 => ?_)
                refine lv_goto (tgt := 111) hx hb dX12_taken_106 (by decide) ?_
                exact RP (v := x5503) hC (trivial) rfl dX12_taken_111
              · refine lv_iload_n hx hb dX12_taken_87 rfl (lv_at hl 0 rfl) ?_
                refine pS hC hK hl (m_above0 l G) si_X12_348 rfl rfl (Nat.le_of_ble_eq_true rfl) ⟨Nat.le_of_ble_eq_true rfl, Nat.le_of_ble_eq_true rfl⟩ ⟨by first | exact Nat.le_of_ble_eq_true rfl | exact Nat.zero_le _, by first | exact Nat.le_of_ble_eq_true rfl | exact Nat.zero_le _⟩ dX12_taken_88 (fun r5504 hr5504 => ?_)
                obtain rfl := hr5504
                refine lv_istore_n (lv' := [(3, .int (-1)), (0, .ref h0), (1, .int (nI jt)), (2, .int x2)]) hx hb dX12_taken_91 rfl hl (by decide) rfl (fun ls hl => ?_)
                refine lv_goto (tgt := 78) hx hb dX12_taken_92 (by decide) ?_
                refine lv_iload_n hx hb dX12_taken_78 rfl (lv_at hl 0 rfl) ?_
                refine lv_if_lt (tgt := 95) hx hb dX12_taken_79 (by decide) (fun _ => ?_) (fun c9 => absurd (by decide) c9)
                refine lv_iload_n hx hb dX12_taken_95 rfl (lv_at hl 0 rfl) ?_
                refine lv_iload_n hx hb dX12_taken_96 rfl (lv_at hl 3 rfl) ?_
                refine lv_icmp_ne (tgt := 109) hx hb dX12_taken_97 (by decide) (fun c_97_5506 => ?_) (fun c_97_5506 => ?_)
                · refine lv_bipush (v := (-13)) hx hb dX12_taken_109 (by decide) ?_
                  exact RP (v := (-13)) hC (trivial) rfl dX12_taken_111
                · refine lv_aload_n hx hb dX12_taken_100 rfl (lv_at hl 1 rfl) ?_
                  refine gf_X12_75 hC rfl hK hP 0 rfl rfl dX12_taken_101 ?_
                  refine lv_iload_n hx hb dX12_taken_104 rfl (lv_at hl 2 rfl) ?_
                  refine ald hC hK hP 3 rfl (vp_in_nI (by omega) (by omega)) (k := jt) (nI_clamp (by omega)) (v := fnsf jt) rfl dX12_taken_105 ?_
                  refine lv_topi (fun x5507 ex5507 => ?_)
                  refine lv_goto (tgt := 111) hx hb dX12_taken_106 (by decide) ?_
                  exact RP (v := x5507) hC (trivial) rfl dX12_taken_111
          · refine lv_istore_n (lv' := [(3, .int 5), (0, .ref h0), (1, .int (nI jt)), (2, .int x2)]) hx hb dX12_taken_70 rfl hl (by decide) rfl (fun ls hl => ?_)
            refine lv_iload_n hx hb dX12_taken_71 rfl (lv_at hl 0 rfl) ?_
            refine lv_if_ge (tgt := 78) hx hb dX12_taken_72 (by decide) (fun _ => ?_) (fun c9 => absurd (by decide) c9)
            refine lv_iload_n hx hb dX12_taken_78 rfl (lv_at hl 0 rfl) ?_
            refine lv_if_lt (tgt := 95) hx hb dX12_taken_79 (by decide) (fun c9 => absurd c9 (by decide)) (fun _ => ?_)
            refine lv_iload_n hx hb dX12_taken_82 rfl (lv_at hl 0 rfl) ?_
            refine lv_iload_n hx hb dX12_taken_83 rfl (lv_at hl 3 rfl) ?_
            refine lv_icmp_eq (tgt := 95) hx hb dX12_taken_84 (by decide) (fun c_84_5508 => ?_) (fun c_84_5508 => ?_)
            · refine lv_iload_n hx hb dX12_taken_95 rfl (lv_at hl 0 rfl) ?_
              refine lv_iload_n hx hb dX12_taken_96 rfl (lv_at hl 3 rfl) ?_
              refine lv_icmp_ne (tgt := 109) hx hb dX12_taken_97 (by decide) (fun c9 => absurd (c_84_5508) c9) (fun _ => ?_)
              refine lv_aload_n hx hb dX12_taken_100 rfl (lv_at hl 1 rfl) ?_
              refine gf_X12_75 hC rfl hK hP 0 rfl rfl dX12_taken_101 ?_
              refine lv_iload_n hx hb dX12_taken_104 rfl (lv_at hl 2 rfl) ?_
              refine ald hC hK hP 3 rfl (vp_in_nI (by omega) (by omega)) (k := jt) (nI_clamp (by omega)) (v := fnsf jt) rfl dX12_taken_105 ?_
              refine lv_topi (fun x5509 ex5509 => ?_)
              refine lv_goto (tgt := 111) hx hb dX12_taken_106 (by decide) ?_
              exact RP (v := x5509) hC (trivial) rfl dX12_taken_111
            · refine lv_iload_n hx hb dX12_taken_87 rfl (lv_at hl 0 rfl) ?_
              refine pS hC hK hl (m_above5 l G) si_X12_348 rfl rfl (Nat.le_of_ble_eq_true rfl) ⟨Nat.le_of_ble_eq_true rfl, Nat.le_of_ble_eq_true rfl⟩ ⟨by first | exact Nat.le_of_ble_eq_true rfl | exact Nat.zero_le _, by first | exact Nat.le_of_ble_eq_true rfl | exact Nat.zero_le _⟩ dX12_taken_88 (fun r5510 hr5510 => ?_)
              obtain rfl := hr5510
              refine lv_istore_n (lv' := [(3, .int 4), (0, .ref h0), (1, .int (nI jt)), (2, .int x2)]) hx hb dX12_taken_91 rfl hl (by decide) rfl (fun ls hl => ?_)
              refine lv_goto (tgt := 78) hx hb dX12_taken_92 (by decide) ?_
              refine lv_iload_n hx hb dX12_taken_78 rfl (lv_at hl 0 rfl) ?_
              refine lv_if_lt (tgt := 95) hx hb dX12_taken_79 (by decide) (fun c9 => absurd c9 (by decide)) (fun _ => ?_)
              refine lv_iload_n hx hb dX12_taken_82 rfl (lv_at hl 0 rfl) ?_
              refine lv_iload_n hx hb dX12_taken_83 rfl (lv_at hl 3 rfl) ?_
              refine lv_icmp_eq (tgt := 95) hx hb dX12_taken_84 (by decide) (fun c_84_5512 => ?_) (fun c_84_5512 => ?_)
              · refine lv_iload_n hx hb dX12_taken_95 rfl (lv_at hl 0 rfl) ?_
                refine lv_iload_n hx hb dX12_taken_96 rfl (lv_at hl 3 rfl) ?_
                refine lv_icmp_ne (tgt := 109) hx hb dX12_taken_97 (by decide) (fun c9 => absurd (c_84_5512) c9) (fun _ => ?_)
                refine lv_aload_n hx hb dX12_taken_100 rfl (lv_at hl 1 rfl) ?_
                refine gf_X12_75 hC rfl hK hP 0 rfl rfl dX12_taken_101 ?_
                refine lv_iload_n hx hb dX12_taken_104 rfl (lv_at hl 2 rfl) ?_
                refine ald hC hK hP 3 rfl (vp_in_nI (by omega) (by omega)) (k := jt) (nI_clamp (by omega)) (v := fnsf jt) rfl dX12_taken_105 ?_
                refine lv_topi (fun x5513 ex5513 => ?_)
                refine lv_goto (tgt := 111) hx hb dX12_taken_106 (by decide) ?_
                exact RP (v := x5513) hC (trivial) rfl dX12_taken_111
              · refine lv_iload_n hx hb dX12_taken_87 rfl (lv_at hl 0 rfl) ?_
                refine pS hC hK hl (m_above4 l G) si_X12_348 rfl rfl (Nat.le_of_ble_eq_true rfl) ⟨Nat.le_of_ble_eq_true rfl, Nat.le_of_ble_eq_true rfl⟩ ⟨by first | exact Nat.le_of_ble_eq_true rfl | exact Nat.zero_le _, by first | exact Nat.le_of_ble_eq_true rfl | exact Nat.zero_le _⟩ dX12_taken_88 (fun r5514 hr5514 => ?_)
                obtain rfl := hr5514
                refine lv_istore_n (lv' := [(3, .int 0), (0, .ref h0), (1, .int (nI jt)), (2, .int x2)]) hx hb dX12_taken_91 rfl hl (by decide) rfl (fun ls hl => ?_)
                refine lv_goto (tgt := 78) hx hb dX12_taken_92 (by decide) ?_
                refine lv_iload_n hx hb dX12_taken_78 rfl (lv_at hl 0 rfl) ?_
                refine lv_if_lt (tgt := 95) hx hb dX12_taken_79 (by decide) (fun c9 => absurd c9 (by decide)) (fun _ => ?_)
                refine lv_iload_n hx hb dX12_taken_82 rfl (lv_at hl 0 rfl) ?_
                refine lv_iload_n hx hb dX12_taken_83 rfl (lv_at hl 3 rfl) ?_
                refine lv_icmp_eq (tgt := 95) hx hb dX12_taken_84 (by decide) (fun c_84_5516 => ?_) (fun c_84_5516 => ?_)
                · refine lv_iload_n hx hb dX12_taken_95 rfl (lv_at hl 0 rfl) ?_
                  refine lv_iload_n hx hb dX12_taken_96 rfl (lv_at hl 3 rfl) ?_
                  refine lv_icmp_ne (tgt := 109) hx hb dX12_taken_97 (by decide) (fun c9 => absurd (c_84_5516) c9) (fun _ => ?_)
                  refine lv_aload_n hx hb dX12_taken_100 rfl (lv_at hl 1 rfl) ?_
                  refine gf_X12_75 hC rfl hK hP 0 rfl rfl dX12_taken_101 ?_
                  refine lv_iload_n hx hb dX12_taken_104 rfl (lv_at hl 2 rfl) ?_
                  refine ald hC hK hP 3 rfl (vp_in_nI (by omega) (by omega)) (k := jt) (nI_clamp (by omega)) (v := fnsf jt) rfl dX12_taken_105 ?_
                  refine lv_topi (fun x5517 ex5517 => ?_)
                  refine lv_goto (tgt := 111) hx hb dX12_taken_106 (by decide) ?_
                  exact RP (v := x5517) hC (trivial) rfl dX12_taken_111
                · refine lv_iload_n hx hb dX12_taken_87 rfl (lv_at hl 0 rfl) ?_
                  refine pS hC hK hl (m_above0 l G) si_X12_348 rfl rfl (Nat.le_of_ble_eq_true rfl) ⟨Nat.le_of_ble_eq_true rfl, Nat.le_of_ble_eq_true rfl⟩ ⟨by first | exact Nat.le_of_ble_eq_true rfl | exact Nat.zero_le _, by first | exact Nat.le_of_ble_eq_true rfl | exact Nat.zero_le _⟩ dX12_taken_88 (fun r5518 hr5518 => ?_)
                  obtain rfl := hr5518
                  refine lv_istore_n (lv' := [(3, .int (-1)), (0, .ref h0), (1, .int (nI jt)), (2, .int x2)]) hx hb dX12_taken_91 rfl hl (by decide) rfl (fun ls hl => ?_)
                  refine lv_goto (tgt := 78) hx hb dX12_taken_92 (by decide) ?_
                  refine lv_iload_n hx hb dX12_taken_78 rfl (lv_at hl 0 rfl) ?_
                  refine lv_if_lt (tgt := 95) hx hb dX12_taken_79 (by decide) (fun _ => ?_) (fun c9 => absurd (by decide) c9)
                  refine lv_iload_n hx hb dX12_taken_95 rfl (lv_at hl 0 rfl) ?_
                  refine lv_iload_n hx hb dX12_taken_96 rfl (lv_at hl 3 rfl) ?_
                  refine lv_icmp_ne (tgt := 109) hx hb dX12_taken_97 (by decide) (fun c_97_5520 => ?_) (fun c_97_5520 => ?_)
                  · refine lv_bipush (v := (-13)) hx hb dX12_taken_109 (by decide) ?_
                    exact RP (v := (-13)) hC (trivial) rfl dX12_taken_111
                  · refine lv_aload_n hx hb dX12_taken_100 rfl (lv_at hl 1 rfl) ?_
                    refine gf_X12_75 hC rfl hK hP 0 rfl rfl dX12_taken_101 ?_
                    refine lv_iload_n hx hb dX12_taken_104 rfl (lv_at hl 2 rfl) ?_
                    refine ald hC hK hP 3 rfl (vp_in_nI (by omega) (by omega)) (k := jt) (nI_clamp (by omega)) (v := fnsf jt) rfl dX12_taken_105 ?_
                    refine lv_topi (fun x5521 ex5521 => ?_)
                    refine lv_goto (tgt := 111) hx hb dX12_taken_106 (by decide) ?_
                    exact RP (v := x5521) hC (trivial) rfl dX12_taken_111
          · refine lv_istore_n (lv' := [(3, .int 6), (0, .ref h0), (1, .int (nI jt)), (2, .int x2)]) hx hb dX12_taken_70 rfl hl (by decide) rfl (fun ls hl => ?_)
            refine lv_iload_n hx hb dX12_taken_71 rfl (lv_at hl 0 rfl) ?_
            refine lv_if_ge (tgt := 78) hx hb dX12_taken_72 (by decide) (fun _ => ?_) (fun c9 => absurd (by decide) c9)
            refine lv_iload_n hx hb dX12_taken_78 rfl (lv_at hl 0 rfl) ?_
            refine lv_if_lt (tgt := 95) hx hb dX12_taken_79 (by decide) (fun c9 => absurd c9 (by decide)) (fun _ => ?_)
            refine lv_iload_n hx hb dX12_taken_82 rfl (lv_at hl 0 rfl) ?_
            refine lv_iload_n hx hb dX12_taken_83 rfl (lv_at hl 3 rfl) ?_
            refine lv_icmp_eq (tgt := 95) hx hb dX12_taken_84 (by decide) (fun c_84_5522 => ?_) (fun c_84_5522 => ?_)
            · refine lv_iload_n hx hb dX12_taken_95 rfl (lv_at hl 0 rfl) ?_
              refine lv_iload_n hx hb dX12_taken_96 rfl (lv_at hl 3 rfl) ?_
              refine lv_icmp_ne (tgt := 109) hx hb dX12_taken_97 (by decide) (fun c9 => absurd (c_84_5522) c9) (fun _ => ?_)
              refine lv_aload_n hx hb dX12_taken_100 rfl (lv_at hl 1 rfl) ?_
              refine gf_X12_75 hC rfl hK hP 0 rfl rfl dX12_taken_101 ?_
              refine lv_iload_n hx hb dX12_taken_104 rfl (lv_at hl 2 rfl) ?_
              refine ald hC hK hP 3 rfl (vp_in_nI (by omega) (by omega)) (k := jt) (nI_clamp (by omega)) (v := fnsf jt) rfl dX12_taken_105 ?_
              refine lv_topi (fun x5523 ex5523 => ?_)
              refine lv_goto (tgt := 111) hx hb dX12_taken_106 (by decide) ?_
              exact RP (v := x5523) hC (trivial) rfl dX12_taken_111
            · refine lv_iload_n hx hb dX12_taken_87 rfl (lv_at hl 0 rfl) ?_
              refine pS hC hK hl (m_above6 l G) si_X12_348 rfl rfl (Nat.le_of_ble_eq_true rfl) ⟨Nat.le_of_ble_eq_true rfl, Nat.le_of_ble_eq_true rfl⟩ ⟨by first | exact Nat.le_of_ble_eq_true rfl | exact Nat.zero_le _, by first | exact Nat.le_of_ble_eq_true rfl | exact Nat.zero_le _⟩ dX12_taken_88 (fun r5524 hr5524 => ?_)
              obtain rfl := hr5524
              refine lv_istore_n (lv' := [(3, .int 0), (0, .ref h0), (1, .int (nI jt)), (2, .int x2)]) hx hb dX12_taken_91 rfl hl (by decide) rfl (fun ls hl => ?_)
              refine lv_goto (tgt := 78) hx hb dX12_taken_92 (by decide) ?_
              refine lv_iload_n hx hb dX12_taken_78 rfl (lv_at hl 0 rfl) ?_
              refine lv_if_lt (tgt := 95) hx hb dX12_taken_79 (by decide) (fun c9 => absurd c9 (by decide)) (fun _ => ?_)
              refine lv_iload_n hx hb dX12_taken_82 rfl (lv_at hl 0 rfl) ?_
              refine lv_iload_n hx hb dX12_taken_83 rfl (lv_at hl 3 rfl) ?_
              refine lv_icmp_eq (tgt := 95) hx hb dX12_taken_84 (by decide) (fun c_84_5526 => ?_) (fun c_84_5526 => ?_)
              · refine lv_iload_n hx hb dX12_taken_95 rfl (lv_at hl 0 rfl) ?_
                refine lv_iload_n hx hb dX12_taken_96 rfl (lv_at hl 3 rfl) ?_
                refine lv_icmp_ne (tgt := 109) hx hb dX12_taken_97 (by decide) (fun c9 => absurd (c_84_5526) c9) (fun _ => ?_)
                refine lv_aload_n hx hb dX12_taken_100 rfl (lv_at hl 1 rfl) ?_
                refine gf_X12_75 hC rfl hK hP 0 rfl rfl dX12_taken_101 ?_
                refine lv_iload_n hx hb dX12_taken_104 rfl (lv_at hl 2 rfl) ?_
                refine ald hC hK hP 3 rfl (vp_in_nI (by omega) (by omega)) (k := jt) (nI_clamp (by omega)) (v := fnsf jt) rfl dX12_taken_105 ?_
                refine lv_topi (fun x5527 ex5527 => ?_)
                refine lv_goto (tgt := 111) hx hb dX12_taken_106 (by decide) ?_
                exact RP (v := x5527) hC (trivial) rfl dX12_taken_111
              · refine lv_iload_n hx hb dX12_taken_87 rfl (lv_at hl 0 rfl) ?_
                refine pS hC hK hl (m_above0 l G) si_X12_348 rfl rfl (Nat.le_of_ble_eq_true rfl) ⟨Nat.le_of_ble_eq_true rfl, Nat.le_of_ble_eq_true rfl⟩ ⟨by first | exact Nat.le_of_ble_eq_true rfl | exact Nat.zero_le _, by first | exact Nat.le_of_ble_eq_true rfl | exact Nat.zero_le _⟩ dX12_taken_88 (fun r5528 hr5528 => ?_)
                obtain rfl := hr5528
                refine lv_istore_n (lv' := [(3, .int (-1)), (0, .ref h0), (1, .int (nI jt)), (2, .int x2)]) hx hb dX12_taken_91 rfl hl (by decide) rfl (fun ls hl => ?_)
                refine lv_goto (tgt := 78) hx hb dX12_taken_92 (by decide) ?_
                refine lv_iload_n hx hb dX12_taken_78 rfl (lv_at hl 0 rfl) ?_
                refine lv_if_lt (tgt := 95) hx hb dX12_taken_79 (by decide) (fun _ => ?_) (fun c9 => absurd (by decide) c9)
                refine lv_iload_n hx hb dX12_taken_95 rfl (lv_at hl 0 rfl) ?_
                refine lv_iload_n hx hb dX12_taken_96 rfl (lv_at hl 3 rfl) ?_
                refine lv_icmp_ne (tgt := 109) hx hb dX12_taken_97 (by decide) (fun c_97_5530 => ?_) (fun c_97_5530 => ?_)
                · refine lv_bipush (v := (-13)) hx hb dX12_taken_109 (by decide) ?_
                  exact RP (v := (-13)) hC (trivial) rfl dX12_taken_111
                · refine lv_aload_n hx hb dX12_taken_100 rfl (lv_at hl 1 rfl) ?_
                  refine gf_X12_75 hC rfl hK hP 0 rfl rfl dX12_taken_101 ?_
                  refine lv_iload_n hx hb dX12_taken_104 rfl (lv_at hl 2 rfl) ?_
                  refine ald hC hK hP 3 rfl (vp_in_nI (by omega) (by omega)) (k := jt) (nI_clamp (by omega)) (v := fnsf jt) rfl dX12_taken_105 ?_
                  refine lv_topi (fun x5531 ex5531 => ?_)
                  refine lv_goto (tgt := 111) hx hb dX12_taken_106 (by decide) ?_
                  exact RP (v := x5531) hC (trivial) rfl dX12_taken_111
        · refine lv_iload_n hx hb dX12_taken_40 rfl (lv_at hl 2 rfl) ?_
          refine lv_bipush (v := 10) hx hb dX12_taken_41 (by decide) ?_
          refine lv_isub hx hb dX12_taken_43 ?_
          refine lv_aload_n hx hb dX12_taken_44 rfl (lv_at hl 0 rfl) ?_
          refine gf_X12_75 hC rfl hK hP 0 rfl rfl dX12_taken_45 ?_
          refine lv_iload_n hx hb dX12_taken_48 rfl (lv_at hl 1 rfl) ?_
          refine ald hC hK hP 3 rfl (vp_in_nI (by omega) (by omega)) (k := jt) (nI_clamp (by omega)) (v := fnsf jt) rfl dX12_taken_49 ?_
          refine lv_topi (fun x5532 ex5532 => ?_)
          refine lv_icmp_ne (tgt := 62) hx hb dX12_taken_50 (by decide) (fun c_50_5533 => ?_) (fun c_50_5533 => ?_)
          · refine lv_bipush (v := (-13)) hx hb dX12_taken_62 (by decide) ?_
            exact RP (v := (-13)) hC (trivial) rfl dX12_taken_64
          · refine lv_aload_n hx hb dX12_taken_53 rfl (lv_at hl 0 rfl) ?_
            refine gf_X12_78 hC rfl hK hP 0 rfl rfl dX12_taken_54 ?_
            refine lv_iload_n hx hb dX12_taken_57 rfl (lv_at hl 1 rfl) ?_
            refine ald hC hK hP 4 rfl (vp_in_nI (by omega) (by omega)) (k := jt) (nI_clamp (by omega)) (v := fnss jt) rfl dX12_taken_58 ?_
            refine lv_topi (fun x5534 ex5534 => ?_)
            refine lv_goto (tgt := 64) hx hb dX12_taken_59 (by decide) ?_
            exact RP (v := x5534) hC (trivial) rfl dX12_taken_64
      · refine lv_if_ne (tgt := 30) hx hb dX12_taken_25 (by decide) (fun c9 => absurd (by decide) c9) (fun _ => ?_)
        refine lv_iconst (v := (-1)) hx hb dX12_taken_28 (by decide) ?_
        exact RP (v := (-1)) hC (trivial) rfl dX12_taken_29
  · refine lv_if_eq (tgt := 28) hx hb dX12_taken_4 (by decide) (fun _ => ?_) (fun c9 => absurd (by decide) c9)
    refine lv_iconst (v := (-1)) hx hb dX12_taken_28 (by decide) ?_
    exact RP (v := (-1)) hC (trivial) rfl dX12_taken_29
set_option maxHeartbeats 4000000 in
set_option maxRecDepth 100000 in
theorem m_began (l : Launch) (G : GG) (h0 : Nat) (bo : Int32) (nw : Nat) (nk : Nat) (mhasKept : Int32) (nt : Nat) (mtaped : Int32) (nr : Nat) (mrowMany : Int32) (mroundOf : Int32) (mroundFrom : Int32) (mouts : Int32) (nm : Nat) (mfromHour : Int32) (mtoHour : Int32) (ns : Nat) (mfrom : Int32) (mto : Int32) (msort : Int32) (misFault : Int32) (mdeep : Int32) (mcoded : Int32) (mlines : Int32) (nl : Nat) (nc : Nat) (nF : Nat) (np : Nat) (ntr : Nat) (nb : Nat) (mbestCost : Int32) (nso : Nat) (nsi : Nat) (nit : Nat) (nsh : Nat) (nsf : Nat) (nss : Nat) (nrc : Nat) (jr : Nat) (mdealer : Int32) (mnumber : Int32) (mwhose : Int32) (msize : Int32) (misParted : Int32) (fnrc : Nat → Int32) (hjr : jr ≤ 30) : MV l G yX12_began cX12_began 2 1 0 0 [.ref h0, .int bo] [(h0, .inr (12, [.ref nw, .ref nk, .int mhasKept, .ref nt, .int mtaped, .ref nr, .int mrowMany, .int mroundOf, .int mroundFrom, .int mouts, .ref nm, .int mfromHour, .int mtoHour, .ref ns, .int mfrom, .int mto, .int msort, .int misFault, .int mdeep, .int mcoded, .int mlines, .ref nl, .ref nc, .ref nF, .ref np, .ref ntr, .ref nb, .int mbestCost, .ref nso, .ref nsi, .ref nit, .ref nsh, .ref nsf, .ref nss, .ref nrc, .int (nI jr), .int mdealer, .int mnumber, .int mwhose, .int msize, .int misParted])), (nrc, .inl (G.2.1, 30, .inl fnrc))] (fun u : Nat × (Nat → Int32) => u.1 ≤ 30) (fun u : Nat × (Nat → Int32) => [(h0, .inr (12, [.ref nw, .ref nk, .int mhasKept, .ref nt, .int mtaped, .ref nr, .int mrowMany, .int mroundOf, .int mroundFrom, .int mouts, .ref nm, .int mfromHour, .int mtoHour, .ref ns, .int mfrom, .int mto, .int msort, .int misFault, .int mdeep, .int mcoded, .int mlines, .ref nl, .ref nc, .ref nF, .ref np, .ref ntr, .ref nb, .int mbestCost, .ref nso, .ref nsi, .ref nit, .ref nsh, .ref nsf, .ref nss, .ref nrc, .int (nI u.1), .int mdealer, .int mnumber, .int mwhose, .int msize, .int misParted])), (nrc, .inl (G.2.1, 30, .inl u.2))]) := by
  refine MV.start (by decide +kernel) (Nat.le_of_ble_eq_true rfl) ?_
  intro p e s m below meth c A ls hC hK hP hD hS hA hl
  have hl : lv_has ls 2 [(0, .ref h0), (1, .int bo)] := hl
  obtain ⟨hx, hb, hr, hml, hB, hown, hlocks, hnm⟩ := id hC
  refine lv_aload_n hx hb dX12_began_0 rfl (lv_at hl 0 rfl) ?_
  refine gf_X12_351 hC rfl hK hP 0 rfl rfl dX12_began_1 ?_
  refine lv_bipush (v := 30) hx hb dX12_began_4 (by decide) ?_
  refine lv_icmp_ge (tgt := 29) hx hb dX12_began_6 (by decide) (fun c_6_5535 => ?_) (fun c_6_5535 => ?_)
  · exact RV hC hP hD hS [0, 1] (jr, fnrc) rfl rfl (by decide) (by omega) dX12_began_29
  · have hjr9 := nge_nat (R := 30) (k := jr) (by decide) (by omega) c_6_5535
    refine lv_aload_n hx hb dX12_began_9 rfl (lv_at hl 0 rfl) ?_
    refine gf_X12_81 hC rfl hK hP 0 rfl rfl dX12_began_10 ?_
    refine lv_aload_n hx hb dX12_began_13 rfl (lv_at hl 0 rfl) ?_
    refine gf_X12_351 hC rfl hK hP 0 rfl rfl dX12_began_14 ?_
    refine lv_iload_n hx hb dX12_began_17 rfl (lv_at hl 1 rfl) ?_
    refine ast hC hK hP hD hS 1 (ws' := [(h0, .inr (12, [.ref nw, .ref nk, .int mhasKept, .ref nt, .int mtaped, .ref nr, .int mrowMany, .int mroundOf, .int mroundFrom, .int mouts, .ref nm, .int mfromHour, .int mtoHour, .ref ns, .int mfrom, .int mto, .int msort, .int misFault, .int mdeep, .int mcoded, .int mlines, .ref nl, .ref nc, .ref nF, .ref np, .ref ntr, .ref nb, .int mbestCost, .ref nso, .ref nsi, .ref nit, .ref nsh, .ref nsf, .ref nss, .ref nrc, .int (nI jr), .int mdealer, .int mnumber, .int mwhose, .int msize, .int misParted])), (nrc, .inl (G.2.1, 30, .inl (upd fnrc jr bo)))]) rfl (vp_in_nI (by omega) (by omega)) (k := jr) (nI_clamp (by omega)) (rfl) dX12_began_18 (fun H locs hP hD hS => ?_)
    refine lv_aload_n hx hb dX12_began_19 rfl (lv_at hl 0 rfl) ?_
    refine lv_dup hx hb dX12_began_20 rfl ?_
    refine gf_X12_351 hC rfl hK hP 0 rfl rfl dX12_began_21 ?_
    refine lv_iconst (v := 1) hx hb dX12_began_24 (by decide) ?_
    refine lv_iadd hx hb dX12_began_25 ?_
    refine eqi (x1 := nI (jr + 1)) (nI_add jr 1) ?_
    refine pf_X12_351 hC rfl hK hP hD hS 0 (ws' := [(h0, .inr (12, [.ref nw, .ref nk, .int mhasKept, .ref nt, .int mtaped, .ref nr, .int mrowMany, .int mroundOf, .int mroundFrom, .int mouts, .ref nm, .int mfromHour, .int mtoHour, .ref ns, .int mfrom, .int mto, .int msort, .int misFault, .int mdeep, .int mcoded, .int mlines, .ref nl, .ref nc, .ref nF, .ref np, .ref ntr, .ref nb, .int mbestCost, .ref nso, .ref nsi, .ref nit, .ref nsh, .ref nsf, .ref nss, .ref nrc, .int (nI (jr + 1)), .int mdealer, .int mnumber, .int mwhose, .int msize, .int misParted])), (nrc, .inl (G.2.1, 30, .inl (upd fnrc jr bo)))]) rfl (Nat.le_of_ble_eq_true rfl) rfl rfl rfl dX12_began_26 (fun H locs hP hD hS => ?_)
    exact RV hC hP hD hS [0, 1] ((jr + 1), upd fnrc jr bo) rfl rfl (by decide) (by omega) dX12_began_29
set_option maxHeartbeats 4000000 in
set_option maxRecDepth 100000 in
theorem m_body00 (l : Launch) (G : GG) (h0 : Nat) (xx : Int32) (nw : Nat) (nk : Nat) (mhasKept : Int32) (nt : Nat) (mtaped : Int32) (nr : Nat) (mrowMany : Int32) (mroundOf : Int32) (mroundFrom : Int32) (mouts : Int32) (nm : Nat) (mfromHour : Int32) (mtoHour : Int32) (ns : Nat) (mfrom : Int32) (mto : Int32) (msort : Int32) (misFault : Int32) (mdeep : Int32) (mcoded : Int32) (mlines : Int32) (nl : Nat) (nc : Nat) (nF : Nat) (np : Nat) (ntr : Nat) (nb : Nat) (mbestCost : Int32) (nso : Nat) (nsi : Nat) (nit : Nat) (nsh : Nat) (nsf : Nat) (nss : Nat) (nrc : Nat) (jr : Nat) (jd : Nat) (mnumber : Int32) (mwhose : Int32) (msize : Int32) (misParted : Int32) (fnrc : Nat → Int32) (hjr : jr ≤ 30) (hjd : jd < 7) : MI l G yX12_body cX12_body 6 (some .int) 3 0 0 [.ref h0, .int 0, .int 0, .int xx] [(h0, .inr (12, [.ref nw, .ref nk, .int mhasKept, .ref nt, .int mtaped, .ref nr, .int mrowMany, .int mroundOf, .int mroundFrom, .int mouts, .ref nm, .int mfromHour, .int mtoHour, .ref ns, .int mfrom, .int mto, .int msort, .int misFault, .int mdeep, .int mcoded, .int mlines, .ref nl, .ref nc, .ref nF, .ref np, .ref ntr, .ref nb, .int mbestCost, .ref nso, .ref nsi, .ref nit, .ref nsh, .ref nsf, .ref nss, .ref nrc, .int (nI jr), .int (nI jd), .int mnumber, .int mwhose, .int msize, .int misParted])), (nrc, .inl (G.2.1, 30, .inl fnrc))] (fun (r : Int32) (u : Nat × Int32 × (Nat → Int32)) => (True) ∧ (u.1 ≤ 30)) (fun u : Nat × Int32 × (Nat → Int32) => [(h0, .inr (12, [.ref nw, .ref nk, .int mhasKept, .ref nt, .int mtaped, .ref nr, .int mrowMany, .int mroundOf, .int mroundFrom, .int mouts, .ref nm, .int mfromHour, .int mtoHour, .ref ns, .int mfrom, .int mto, .int msort, .int misFault, .int mdeep, .int mcoded, .int mlines, .ref nl, .ref nc, .ref nF, .ref np, .ref ntr, .ref nb, .int mbestCost, .ref nso, .ref nsi, .ref nit, .ref nsh, .ref nsf, .ref nss, .ref nrc, .int (nI u.1), .int (nI jd), .int mnumber, .int mwhose, .int msize, .int u.2.1])), (nrc, .inl (G.2.1, 30, .inl u.2.2))]) := by
  refine MI.start (by decide +kernel) (Nat.le_of_ble_eq_true rfl) ?_
  intro p e s m below meth c A ls hC hK hP hD hS hA hl
  have hl : lv_has ls 6 [(0, .ref h0), (1, .int 0), (2, .int 0), (3, .int xx)] := hl
  obtain ⟨hx, hb, hr, hml, hB, hown, hlocks, hnm⟩ := id hC
  refine lv_iconst (v := 4) hx hb dX12_body_0 (by decide) ?_
  refine lv_iload_n hx hb dX12_body_1 rfl (lv_at hl 1 rfl) ?_
  refine lv_imul hx hb dX12_body_2 ?_
  refine eqi (x1 := 0) (by decide) ?_
  refine lv_iload_n hx hb dX12_body_3 rfl (lv_at hl 2 rfl) ?_
  refine lv_iadd hx hb dX12_body_4 ?_
  refine eqi (x1 := 0) (by decide) ?_
  refine lv_tableIn (tgt := 112) hx hb dX12_body_5 (by decide) (by decide) rfl (by decide) ?_
  refine lv_aload_n hx hb dX12_body_112 rfl (lv_at hl 0 rfl) ?_
  refine lv_bipush (v := 10) hx hb dX12_body_113 (by decide) ?_
  refine vV (wr := []) hC hK hl hP hD hS hA (m_began l G h0 10 nw nk mhasKept nt mtaped nr mrowMany mroundOf mroundFrom mouts nm mfromHour mtoHour ns mfrom mto msort misFault mdeep mcoded mlines nl nc nF np ntr nb mbestCost nso nsi nit nsh nsf nss nrc jr (nI jd) mnumber mwhose msize misParted fnrc (by omega)) si_X12_366 [0, 1] [] rfl rfl (by decide) rfl (by decide) (by decide) rfl rfl rfl rfl rfl (Nat.le_of_ble_eq_true rfl) ⟨Nat.le_of_ble_eq_true rfl, Nat.le_of_ble_eq_true rfl⟩ ⟨Nat.le_of_ble_eq_true rfl, Nat.le_of_ble_eq_true rfl⟩ dX12_body_115 (fun u5537 H locs hr5536 hP hD hS => ?_)
  obtain ⟨jr15538, gtrc5539⟩ := u5537
  try dsimp only at hr5536
  have hP : va_P G.1 vwCl [(h0, .inr (12, [.ref nw, .ref nk, .int mhasKept, .ref nt, .int mtaped, .ref nr, .int mrowMany, .int mroundOf, .int mroundFrom, .int mouts, .ref nm, .int mfromHour, .int mtoHour, .ref ns, .int mfrom, .int mto, .int msort, .int misFault, .int mdeep, .int mcoded, .int mlines, .ref nl, .ref nc, .ref nF, .ref np, .ref ntr, .ref nb, .int mbestCost, .ref nso, .ref nsi, .ref nit, .ref nsh, .ref nsf, .ref nss, .ref nrc, .int (nI jr15538), .int (nI jd), .int mnumber, .int mwhose, .int msize, .int misParted])), (nrc, .inl (G.2.1, 30, .inl gtrc5539))] H := hP
  have hD : va_D A [(h0, .inr (12, [.ref nw, .ref nk, .int mhasKept, .ref nt, .int mtaped, .ref nr, .int mrowMany, .int mroundOf, .int mroundFrom, .int mouts, .ref nm, .int mfromHour, .int mtoHour, .ref ns, .int mfrom, .int mto, .int msort, .int misFault, .int mdeep, .int mcoded, .int mlines, .ref nl, .ref nc, .ref nF, .ref np, .ref ntr, .ref nb, .int mbestCost, .ref nso, .ref nsi, .ref nit, .ref nsh, .ref nsf, .ref nss, .ref nrc, .int (nI jr15538), .int (nI jd), .int mnumber, .int mwhose, .int msize, .int misParted])), (nrc, .inl (G.2.1, 30, .inl gtrc5539))] := hD
  have w5540 := hr5536
  refine lv_iload_n hx hb dX12_body_118 rfl (lv_at hl 3 rfl) ?_
  refine lv_aload_n hx hb dX12_body_119 rfl (lv_at hl 0 rfl) ?_
  refine gf_X12_369 hC rfl hK hP 0 rfl rfl dX12_body_120 ?_
  refine lv_iadd hx hb dX12_body_123 ?_
  exact RI (v := xx + msize) hC hP hD hS [0, 1] (jr15538, misParted, gtrc5539) rfl rfl (by decide) (⟨trivial, by omega⟩) rfl dX12_body_124
set_option maxHeartbeats 4000000 in
set_option maxRecDepth 100000 in
theorem m_from00 (l : Launch) (G : GG) (h0 : Nat) (xx : Int32) (nw : Nat) (nk : Nat) (mhasKept : Int32) (nt : Nat) (mtaped : Int32) (nr : Nat) (mrowMany : Int32) (mroundOf : Int32) (mroundFrom : Int32) (mouts : Int32) (nm : Nat) (mfromHour : Int32) (mtoHour : Int32) (ns : Nat) (mfrom : Int32) (mto : Int32) (msort : Int32) (misFault : Int32) (mdeep : Int32) (mcoded : Int32) (mlines : Int32) (nl : Nat) (nc : Nat) (nF : Nat) (np : Nat) (ntr : Nat) (nb : Nat) (mbestCost : Int32) (nso : Nat) (nsi : Nat) (nit : Nat) (nsh : Nat) (nsf : Nat) (nss : Nat) (nrc : Nat) (jr : Nat) (jd : Nat) (mnumber : Int32) (mwhose : Int32) (msize : Int32) (misParted : Int32) (fnrc : Nat → Int32) (hjr : jr ≤ 30) (hjd : jd < 7) : MI l G yX12_bodyFrom cX12_bodyFrom 5 (some .int) 4 0 0 [.ref h0, .int 0, .int 0, .int xx] [(h0, .inr (12, [.ref nw, .ref nk, .int mhasKept, .ref nt, .int mtaped, .ref nr, .int mrowMany, .int mroundOf, .int mroundFrom, .int mouts, .ref nm, .int mfromHour, .int mtoHour, .ref ns, .int mfrom, .int mto, .int msort, .int misFault, .int mdeep, .int mcoded, .int mlines, .ref nl, .ref nc, .ref nF, .ref np, .ref ntr, .ref nb, .int mbestCost, .ref nso, .ref nsi, .ref nit, .ref nsh, .ref nsf, .ref nss, .ref nrc, .int (nI jr), .int (nI jd), .int mnumber, .int mwhose, .int msize, .int misParted])), (nrc, .inl (G.2.1, 30, .inl fnrc))] (fun (r : Int32) (u : Nat × Int32 × (Nat → Int32)) => (True) ∧ (u.1 ≤ 30)) (fun u : Nat × Int32 × (Nat → Int32) => [(h0, .inr (12, [.ref nw, .ref nk, .int mhasKept, .ref nt, .int mtaped, .ref nr, .int mrowMany, .int mroundOf, .int mroundFrom, .int mouts, .ref nm, .int mfromHour, .int mtoHour, .ref ns, .int mfrom, .int mto, .int msort, .int misFault, .int mdeep, .int mcoded, .int mlines, .ref nl, .ref nc, .ref nF, .ref np, .ref ntr, .ref nb, .int mbestCost, .ref nso, .ref nsi, .ref nit, .ref nsh, .ref nsf, .ref nss, .ref nrc, .int (nI u.1), .int (nI jd), .int mnumber, .int mwhose, .int msize, .int u.2.1])), (nrc, .inl (G.2.1, 30, .inl u.2.2))]) := by
  refine MI.start (by decide +kernel) (Nat.le_of_ble_eq_true rfl) ?_
  intro p e s m below meth c A ls hC hK hP hD hS hA hl
  have hl : lv_has ls 5 [(0, .ref h0), (1, .int 0), (2, .int 0), (3, .int xx)] := hl
  obtain ⟨hx, hb, hr, hml, hB, hown, hlocks, hnm⟩ := id hC
  refine lv_iload_n hx hb dX12_bodyFrom_0 rfl (lv_at hl 1 rfl) ?_
  refine lv_istore (lv' := [(4, .int 0), (0, .ref h0), (1, .int 0), (2, .int 0), (3, .int xx)]) hx hb dX12_bodyFrom_1 hl (by decide) rfl (fun ls hl => ?_)
  refine lv_iload hx hb dX12_bodyFrom_3 (lv_at hl 0 rfl) ?_
  refine lv_iload_n hx hb dX12_bodyFrom_5 rfl (lv_at hl 3 rfl) ?_
  refine pS hC hK hl (m_hasOwn00 l G) si_X12_360 rfl rfl (Nat.le_of_ble_eq_true rfl) ⟨Nat.le_of_ble_eq_true rfl, Nat.le_of_ble_eq_true rfl⟩ ⟨by first | exact Nat.le_of_ble_eq_true rfl | exact Nat.zero_le _, by first | exact Nat.le_of_ble_eq_true rfl | exact Nat.zero_le _⟩ dX12_bodyFrom_6 (fun r5541 hr5541 => ?_)
  obtain rfl := hr5541
  refine lv_if_ne (tgt := 22) hx hb dX12_bodyFrom_9 (by decide) (fun _ => ?_) (fun c9 => absurd c9 (by decide))
  refine lv_aload_n hx hb dX12_bodyFrom_22 rfl (lv_at hl 1 rfl) ?_
  refine lv_iload hx hb dX12_bodyFrom_23 (lv_at hl 0 rfl) ?_
  refine lv_iload_n hx hb dX12_bodyFrom_25 rfl (lv_at hl 3 rfl) ?_
  refine lv_iload_n hx hb dX12_bodyFrom_26 rfl (lv_at hl 4 rfl) ?_
  refine iV (wr := []) hC hK hl hP hD hS hA (m_body00 l G h0 xx nw nk mhasKept nt mtaped nr mrowMany mroundOf mroundFrom mouts nm mfromHour mtoHour ns mfrom mto msort misFault mdeep mcoded mlines nl nc nF np ntr nb mbestCost nso nsi nit nsh nsf nss nrc jr jd mnumber mwhose msize misParted fnrc (by omega) (by omega)) si_X12_363 [0, 1] [] rfl rfl (by decide) rfl (by decide) (by decide) rfl rfl rfl rfl rfl (Nat.le_of_ble_eq_true rfl) ⟨Nat.le_of_ble_eq_true rfl, Nat.le_of_ble_eq_true rfl⟩ ⟨Nat.le_of_ble_eq_true rfl, Nat.le_of_ble_eq_true rfl⟩ dX12_bodyFrom_27 (fun r5543 u5544 H locs hr5543 hP hD hS => ?_)
  obtain ⟨jr15545, ip15546, gtrc5547⟩ := u5544
  try dsimp only at hr5543
  have hP : va_P G.1 vwCl [(h0, .inr (12, [.ref nw, .ref nk, .int mhasKept, .ref nt, .int mtaped, .ref nr, .int mrowMany, .int mroundOf, .int mroundFrom, .int mouts, .ref nm, .int mfromHour, .int mtoHour, .ref ns, .int mfrom, .int mto, .int msort, .int misFault, .int mdeep, .int mcoded, .int mlines, .ref nl, .ref nc, .ref nF, .ref np, .ref ntr, .ref nb, .int mbestCost, .ref nso, .ref nsi, .ref nit, .ref nsh, .ref nsf, .ref nss, .ref nrc, .int (nI jr15545), .int (nI jd), .int mnumber, .int mwhose, .int msize, .int ip15546])), (nrc, .inl (G.2.1, 30, .inl gtrc5547))] H := hP
  have hD : va_D A [(h0, .inr (12, [.ref nw, .ref nk, .int mhasKept, .ref nt, .int mtaped, .ref nr, .int mrowMany, .int mroundOf, .int mroundFrom, .int mouts, .ref nm, .int mfromHour, .int mtoHour, .ref ns, .int mfrom, .int mto, .int msort, .int misFault, .int mdeep, .int mcoded, .int mlines, .ref nl, .ref nc, .ref nF, .ref np, .ref ntr, .ref nb, .int mbestCost, .ref nso, .ref nsi, .ref nit, .ref nsh, .ref nsf, .ref nss, .ref nrc, .int (nI jr15545), .int (nI jd), .int mnumber, .int mwhose, .int msize, .int ip15546])), (nrc, .inl (G.2.1, 30, .inl gtrc5547))] := hD
  obtain ⟨hr5543, w5548⟩ := hr5543
  exact RI (v := r5543) hC hP hD hS [0, 1] (jr15545, ip15546, gtrc5547) rfl rfl (by decide) (⟨trivial, by omega⟩) rfl dX12_bodyFrom_30
set_option maxHeartbeats 4000000 in
set_option maxRecDepth 100000 in
theorem m_body40 (l : Launch) (G : GG) (h0 : Nat) (xx : Int32) (nw : Nat) (nk : Nat) (mhasKept : Int32) (nt : Nat) (mtaped : Int32) (nr : Nat) (mrowMany : Int32) (mroundOf : Int32) (mroundFrom : Int32) (mouts : Int32) (nm : Nat) (mfromHour : Int32) (mtoHour : Int32) (ns : Nat) (mfrom : Int32) (mto : Int32) (msort : Int32) (misFault : Int32) (mdeep : Int32) (mcoded : Int32) (mlines : Int32) (nl : Nat) (nc : Nat) (nF : Nat) (np : Nat) (ntr : Nat) (nb : Nat) (mbestCost : Int32) (nso : Nat) (nsi : Nat) (nit : Nat) (nsh : Nat) (nsf : Nat) (nss : Nat) (nrc : Nat) (jr : Nat) (jd : Nat) (mnumber : Int32) (mwhose : Int32) (msize : Int32) (misParted : Int32) (fnrc : Nat → Int32) (hjr : jr ≤ 30) (hjd : jd < 7) : MI l G yX12_body cX12_body 6 (some .int) 5 0 0 [.ref h0, .int 4, .int 0, .int xx] [(h0, .inr (12, [.ref nw, .ref nk, .int mhasKept, .ref nt, .int mtaped, .ref nr, .int mrowMany, .int mroundOf, .int mroundFrom, .int mouts, .ref nm, .int mfromHour, .int mtoHour, .ref ns, .int mfrom, .int mto, .int msort, .int misFault, .int mdeep, .int mcoded, .int mlines, .ref nl, .ref nc, .ref nF, .ref np, .ref ntr, .ref nb, .int mbestCost, .ref nso, .ref nsi, .ref nit, .ref nsh, .ref nsf, .ref nss, .ref nrc, .int (nI jr), .int (nI jd), .int mnumber, .int mwhose, .int msize, .int misParted])), (nrc, .inl (G.2.1, 30, .inl fnrc))] (fun (r : Int32) (u : Nat × Int32 × (Nat → Int32)) => (True) ∧ (u.1 ≤ 30)) (fun u : Nat × Int32 × (Nat → Int32) => [(h0, .inr (12, [.ref nw, .ref nk, .int mhasKept, .ref nt, .int mtaped, .ref nr, .int mrowMany, .int mroundOf, .int mroundFrom, .int mouts, .ref nm, .int mfromHour, .int mtoHour, .ref ns, .int mfrom, .int mto, .int msort, .int misFault, .int mdeep, .int mcoded, .int mlines, .ref nl, .ref nc, .ref nF, .ref np, .ref ntr, .ref nb, .int mbestCost, .ref nso, .ref nsi, .ref nit, .ref nsh, .ref nsf, .ref nss, .ref nrc, .int (nI u.1), .int (nI jd), .int mnumber, .int mwhose, .int msize, .int u.2.1])), (nrc, .inl (G.2.1, 30, .inl u.2.2))]) := by
  refine MI.start (by decide +kernel) (Nat.le_of_ble_eq_true rfl) ?_
  intro p e s m below meth c A ls hC hK hP hD hS hA hl
  have hl : lv_has ls 6 [(0, .ref h0), (1, .int 4), (2, .int 0), (3, .int xx)] := hl
  obtain ⟨hx, hb, hr, hml, hB, hown, hlocks, hnm⟩ := id hC
  refine lv_iconst (v := 4) hx hb dX12_body_0 (by decide) ?_
  refine lv_iload_n hx hb dX12_body_1 rfl (lv_at hl 1 rfl) ?_
  refine lv_imul hx hb dX12_body_2 ?_
  refine eqi (x1 := 16) (by decide) ?_
  refine lv_iload_n hx hb dX12_body_3 rfl (lv_at hl 2 rfl) ?_
  refine lv_iadd hx hb dX12_body_4 ?_
  refine eqi (x1 := 16) (by decide) ?_
  refine lv_tableIn (tgt := 274) hx hb dX12_body_5 (by decide) (by decide) rfl (by decide) ?_
  refine lv_aload_n hx hb dX12_body_274 rfl (lv_at hl 0 rfl) ?_
  refine lv_bipush (v := 50) hx hb dX12_body_275 (by decide) ?_
  refine vV (wr := []) hC hK hl hP hD hS hA (m_began l G h0 50 nw nk mhasKept nt mtaped nr mrowMany mroundOf mroundFrom mouts nm mfromHour mtoHour ns mfrom mto msort misFault mdeep mcoded mlines nl nc nF np ntr nb mbestCost nso nsi nit nsh nsf nss nrc jr (nI jd) mnumber mwhose msize misParted fnrc (by omega)) si_X12_366 [0, 1] [] rfl rfl (by decide) rfl (by decide) (by decide) rfl rfl rfl rfl rfl (Nat.le_of_ble_eq_true rfl) ⟨Nat.le_of_ble_eq_true rfl, Nat.le_of_ble_eq_true rfl⟩ ⟨Nat.le_of_ble_eq_true rfl, Nat.le_of_ble_eq_true rfl⟩ dX12_body_277 (fun u5550 H locs hr5549 hP hD hS => ?_)
  obtain ⟨jr15551, gtrc5552⟩ := u5550
  try dsimp only at hr5549
  have hP : va_P G.1 vwCl [(h0, .inr (12, [.ref nw, .ref nk, .int mhasKept, .ref nt, .int mtaped, .ref nr, .int mrowMany, .int mroundOf, .int mroundFrom, .int mouts, .ref nm, .int mfromHour, .int mtoHour, .ref ns, .int mfrom, .int mto, .int msort, .int misFault, .int mdeep, .int mcoded, .int mlines, .ref nl, .ref nc, .ref nF, .ref np, .ref ntr, .ref nb, .int mbestCost, .ref nso, .ref nsi, .ref nit, .ref nsh, .ref nsf, .ref nss, .ref nrc, .int (nI jr15551), .int (nI jd), .int mnumber, .int mwhose, .int msize, .int misParted])), (nrc, .inl (G.2.1, 30, .inl gtrc5552))] H := hP
  have hD : va_D A [(h0, .inr (12, [.ref nw, .ref nk, .int mhasKept, .ref nt, .int mtaped, .ref nr, .int mrowMany, .int mroundOf, .int mroundFrom, .int mouts, .ref nm, .int mfromHour, .int mtoHour, .ref ns, .int mfrom, .int mto, .int msort, .int misFault, .int mdeep, .int mcoded, .int mlines, .ref nl, .ref nc, .ref nF, .ref np, .ref ntr, .ref nb, .int mbestCost, .ref nso, .ref nsi, .ref nit, .ref nsh, .ref nsf, .ref nss, .ref nrc, .int (nI jr15551), .int (nI jd), .int mnumber, .int mwhose, .int msize, .int misParted])), (nrc, .inl (G.2.1, 30, .inl gtrc5552))] := hD
  have w5553 := hr5549
  refine lv_aload_n hx hb dX12_body_280 rfl (lv_at hl 0 rfl) ?_
  refine lv_iconst (v := 0) hx hb dX12_body_281 (by decide) ?_
  refine lv_iconst (v := 0) hx hb dX12_body_282 (by decide) ?_
  refine lv_iload_n hx hb dX12_body_283 rfl (lv_at hl 3 rfl) ?_
  refine iV (wr := []) hC hK hl hP hD hS hA (m_from00 l G h0 xx nw nk mhasKept nt mtaped nr mrowMany mroundOf mroundFrom mouts nm mfromHour mtoHour ns mfrom mto msort misFault mdeep mcoded mlines nl nc nF np ntr nb mbestCost nso nsi nit nsh nsf nss nrc jr15551 jd mnumber mwhose msize misParted gtrc5552 (by omega) (by omega)) si_X12_357 [0, 1] [] rfl rfl (by decide) rfl (by decide) (by decide) rfl rfl rfl rfl rfl (Nat.le_of_ble_eq_true rfl) ⟨Nat.le_of_ble_eq_true rfl, Nat.le_of_ble_eq_true rfl⟩ ⟨Nat.le_of_ble_eq_true rfl, Nat.le_of_ble_eq_true rfl⟩ dX12_body_284 (fun r5554 u5555 H locs hr5554 hP hD hS => ?_)
  obtain ⟨jr15556, ip15557, gtrc5558⟩ := u5555
  try dsimp only at hr5554
  have hP : va_P G.1 vwCl [(h0, .inr (12, [.ref nw, .ref nk, .int mhasKept, .ref nt, .int mtaped, .ref nr, .int mrowMany, .int mroundOf, .int mroundFrom, .int mouts, .ref nm, .int mfromHour, .int mtoHour, .ref ns, .int mfrom, .int mto, .int msort, .int misFault, .int mdeep, .int mcoded, .int mlines, .ref nl, .ref nc, .ref nF, .ref np, .ref ntr, .ref nb, .int mbestCost, .ref nso, .ref nsi, .ref nit, .ref nsh, .ref nsf, .ref nss, .ref nrc, .int (nI jr15556), .int (nI jd), .int mnumber, .int mwhose, .int msize, .int ip15557])), (nrc, .inl (G.2.1, 30, .inl gtrc5558))] H := hP
  have hD : va_D A [(h0, .inr (12, [.ref nw, .ref nk, .int mhasKept, .ref nt, .int mtaped, .ref nr, .int mrowMany, .int mroundOf, .int mroundFrom, .int mouts, .ref nm, .int mfromHour, .int mtoHour, .ref ns, .int mfrom, .int mto, .int msort, .int misFault, .int mdeep, .int mcoded, .int mlines, .ref nl, .ref nc, .ref nF, .ref np, .ref ntr, .ref nb, .int mbestCost, .ref nso, .ref nsi, .ref nit, .ref nsh, .ref nsf, .ref nss, .ref nrc, .int (nI jr15556), .int (nI jd), .int mnumber, .int mwhose, .int msize, .int ip15557])), (nrc, .inl (G.2.1, 30, .inl gtrc5558))] := hD
  obtain ⟨hr5554, w5559⟩ := hr5554
  refine lv_aload_n hx hb dX12_body_287 rfl (lv_at hl 0 rfl) ?_
  refine gf_X12_378 hC rfl hK hP 0 rfl rfl dX12_body_288 ?_
  refine lv_isub hx hb dX12_body_291 ?_
  exact RI (v := r5554 - mnumber) hC hP hD hS [0, 1] (jr15556, ip15557, gtrc5558) rfl rfl (by decide) (⟨trivial, by omega⟩) rfl dX12_body_292
set_option maxHeartbeats 4000000 in
set_option maxRecDepth 100000 in
theorem m_from40 (l : Launch) (G : GG) (h0 : Nat) (xx : Int32) (nw : Nat) (nk : Nat) (mhasKept : Int32) (nt : Nat) (mtaped : Int32) (nr : Nat) (mrowMany : Int32) (mroundOf : Int32) (mroundFrom : Int32) (mouts : Int32) (nm : Nat) (mfromHour : Int32) (mtoHour : Int32) (ns : Nat) (mfrom : Int32) (mto : Int32) (msort : Int32) (misFault : Int32) (mdeep : Int32) (mcoded : Int32) (mlines : Int32) (nl : Nat) (nc : Nat) (nF : Nat) (np : Nat) (ntr : Nat) (nb : Nat) (mbestCost : Int32) (nso : Nat) (nsi : Nat) (nit : Nat) (nsh : Nat) (nsf : Nat) (nss : Nat) (nrc : Nat) (jr : Nat) (jd : Nat) (mnumber : Int32) (mwhose : Int32) (msize : Int32) (misParted : Int32) (fnrc : Nat → Int32) (hjr : jr ≤ 30) (hjd : jd < 7) : MI l G yX12_bodyFrom cX12_bodyFrom 5 (some .int) 6 0 0 [.ref h0, .int 4, .int 0, .int xx] [(h0, .inr (12, [.ref nw, .ref nk, .int mhasKept, .ref nt, .int mtaped, .ref nr, .int mrowMany, .int mroundOf, .int mroundFrom, .int mouts, .ref nm, .int mfromHour, .int mtoHour, .ref ns, .int mfrom, .int mto, .int msort, .int misFault, .int mdeep, .int mcoded, .int mlines, .ref nl, .ref nc, .ref nF, .ref np, .ref ntr, .ref nb, .int mbestCost, .ref nso, .ref nsi, .ref nit, .ref nsh, .ref nsf, .ref nss, .ref nrc, .int (nI jr), .int (nI jd), .int mnumber, .int mwhose, .int msize, .int misParted])), (nrc, .inl (G.2.1, 30, .inl fnrc))] (fun (r : Int32) (u : Nat × Int32 × (Nat → Int32)) => (True) ∧ (u.1 ≤ 30)) (fun u : Nat × Int32 × (Nat → Int32) => [(h0, .inr (12, [.ref nw, .ref nk, .int mhasKept, .ref nt, .int mtaped, .ref nr, .int mrowMany, .int mroundOf, .int mroundFrom, .int mouts, .ref nm, .int mfromHour, .int mtoHour, .ref ns, .int mfrom, .int mto, .int msort, .int misFault, .int mdeep, .int mcoded, .int mlines, .ref nl, .ref nc, .ref nF, .ref np, .ref ntr, .ref nb, .int mbestCost, .ref nso, .ref nsi, .ref nit, .ref nsh, .ref nsf, .ref nss, .ref nrc, .int (nI u.1), .int (nI jd), .int mnumber, .int mwhose, .int msize, .int u.2.1])), (nrc, .inl (G.2.1, 30, .inl u.2.2))]) := by
  refine MI.start (by decide +kernel) (Nat.le_of_ble_eq_true rfl) ?_
  intro p e s m below meth c A ls hC hK hP hD hS hA hl
  have hl : lv_has ls 5 [(0, .ref h0), (1, .int 4), (2, .int 0), (3, .int xx)] := hl
  obtain ⟨hx, hb, hr, hml, hB, hown, hlocks, hnm⟩ := id hC
  refine lv_iload_n hx hb dX12_bodyFrom_0 rfl (lv_at hl 1 rfl) ?_
  refine lv_istore (lv' := [(4, .int 4), (0, .ref h0), (1, .int 4), (2, .int 0), (3, .int xx)]) hx hb dX12_bodyFrom_1 hl (by decide) rfl (fun ls hl => ?_)
  refine lv_iload hx hb dX12_bodyFrom_3 (lv_at hl 0 rfl) ?_
  refine lv_iload_n hx hb dX12_bodyFrom_5 rfl (lv_at hl 3 rfl) ?_
  refine pS hC hK hl (m_hasOwn40 l G) si_X12_360 rfl rfl (Nat.le_of_ble_eq_true rfl) ⟨Nat.le_of_ble_eq_true rfl, Nat.le_of_ble_eq_true rfl⟩ ⟨by first | exact Nat.le_of_ble_eq_true rfl | exact Nat.zero_le _, by first | exact Nat.le_of_ble_eq_true rfl | exact Nat.zero_le _⟩ dX12_bodyFrom_6 (fun r5560 hr5560 => ?_)
  obtain rfl := hr5560
  refine lv_if_ne (tgt := 22) hx hb dX12_bodyFrom_9 (by decide) (fun _ => ?_) (fun c9 => absurd c9 (by decide))
  refine lv_aload_n hx hb dX12_bodyFrom_22 rfl (lv_at hl 1 rfl) ?_
  refine lv_iload hx hb dX12_bodyFrom_23 (lv_at hl 0 rfl) ?_
  refine lv_iload_n hx hb dX12_bodyFrom_25 rfl (lv_at hl 3 rfl) ?_
  refine lv_iload_n hx hb dX12_bodyFrom_26 rfl (lv_at hl 4 rfl) ?_
  refine iV (wr := []) hC hK hl hP hD hS hA (m_body40 l G h0 xx nw nk mhasKept nt mtaped nr mrowMany mroundOf mroundFrom mouts nm mfromHour mtoHour ns mfrom mto msort misFault mdeep mcoded mlines nl nc nF np ntr nb mbestCost nso nsi nit nsh nsf nss nrc jr jd mnumber mwhose msize misParted fnrc (by omega) (by omega)) si_X12_363 [0, 1] [] rfl rfl (by decide) rfl (by decide) (by decide) rfl rfl rfl rfl rfl (Nat.le_of_ble_eq_true rfl) ⟨Nat.le_of_ble_eq_true rfl, Nat.le_of_ble_eq_true rfl⟩ ⟨Nat.le_of_ble_eq_true rfl, Nat.le_of_ble_eq_true rfl⟩ dX12_bodyFrom_27 (fun r5562 u5563 H locs hr5562 hP hD hS => ?_)
  obtain ⟨jr15564, ip15565, gtrc5566⟩ := u5563
  try dsimp only at hr5562
  have hP : va_P G.1 vwCl [(h0, .inr (12, [.ref nw, .ref nk, .int mhasKept, .ref nt, .int mtaped, .ref nr, .int mrowMany, .int mroundOf, .int mroundFrom, .int mouts, .ref nm, .int mfromHour, .int mtoHour, .ref ns, .int mfrom, .int mto, .int msort, .int misFault, .int mdeep, .int mcoded, .int mlines, .ref nl, .ref nc, .ref nF, .ref np, .ref ntr, .ref nb, .int mbestCost, .ref nso, .ref nsi, .ref nit, .ref nsh, .ref nsf, .ref nss, .ref nrc, .int (nI jr15564), .int (nI jd), .int mnumber, .int mwhose, .int msize, .int ip15565])), (nrc, .inl (G.2.1, 30, .inl gtrc5566))] H := hP
  have hD : va_D A [(h0, .inr (12, [.ref nw, .ref nk, .int mhasKept, .ref nt, .int mtaped, .ref nr, .int mrowMany, .int mroundOf, .int mroundFrom, .int mouts, .ref nm, .int mfromHour, .int mtoHour, .ref ns, .int mfrom, .int mto, .int msort, .int misFault, .int mdeep, .int mcoded, .int mlines, .ref nl, .ref nc, .ref nF, .ref np, .ref ntr, .ref nb, .int mbestCost, .ref nso, .ref nsi, .ref nit, .ref nsh, .ref nsf, .ref nss, .ref nrc, .int (nI jr15564), .int (nI jd), .int mnumber, .int mwhose, .int msize, .int ip15565])), (nrc, .inl (G.2.1, 30, .inl gtrc5566))] := hD
  obtain ⟨hr5562, w5567⟩ := hr5562
  exact RI (v := r5562) hC hP hD hS [0, 1] (jr15564, ip15565, gtrc5566) rfl rfl (by decide) (⟨trivial, by omega⟩) rfl dX12_bodyFrom_30
set_option maxHeartbeats 4000000 in
set_option maxRecDepth 100000 in
theorem m_body50 (l : Launch) (G : GG) (h0 : Nat) (xx : Int32) (nw : Nat) (nk : Nat) (mhasKept : Int32) (nt : Nat) (mtaped : Int32) (nr : Nat) (mrowMany : Int32) (mroundOf : Int32) (mroundFrom : Int32) (mouts : Int32) (nm : Nat) (mfromHour : Int32) (mtoHour : Int32) (ns : Nat) (mfrom : Int32) (mto : Int32) (msort : Int32) (misFault : Int32) (mdeep : Int32) (mcoded : Int32) (mlines : Int32) (nl : Nat) (nc : Nat) (nF : Nat) (np : Nat) (ntr : Nat) (nb : Nat) (mbestCost : Int32) (nso : Nat) (nsi : Nat) (nit : Nat) (nsh : Nat) (nsf : Nat) (nss : Nat) (nrc : Nat) (jr : Nat) (jd : Nat) (mnumber : Int32) (mwhose : Int32) (msize : Int32) (misParted : Int32) (fnrc : Nat → Int32) (hjr : jr ≤ 30) (hjd : jd < 7) : MI l G yX12_body cX12_body 6 (some .int) 7 0 0 [.ref h0, .int 5, .int 0, .int xx] [(h0, .inr (12, [.ref nw, .ref nk, .int mhasKept, .ref nt, .int mtaped, .ref nr, .int mrowMany, .int mroundOf, .int mroundFrom, .int mouts, .ref nm, .int mfromHour, .int mtoHour, .ref ns, .int mfrom, .int mto, .int msort, .int misFault, .int mdeep, .int mcoded, .int mlines, .ref nl, .ref nc, .ref nF, .ref np, .ref ntr, .ref nb, .int mbestCost, .ref nso, .ref nsi, .ref nit, .ref nsh, .ref nsf, .ref nss, .ref nrc, .int (nI jr), .int (nI jd), .int mnumber, .int mwhose, .int msize, .int misParted])), (nrc, .inl (G.2.1, 30, .inl fnrc))] (fun (r : Int32) (u : Nat × Int32 × (Nat → Int32)) => (True) ∧ (u.1 ≤ 30)) (fun u : Nat × Int32 × (Nat → Int32) => [(h0, .inr (12, [.ref nw, .ref nk, .int mhasKept, .ref nt, .int mtaped, .ref nr, .int mrowMany, .int mroundOf, .int mroundFrom, .int mouts, .ref nm, .int mfromHour, .int mtoHour, .ref ns, .int mfrom, .int mto, .int msort, .int misFault, .int mdeep, .int mcoded, .int mlines, .ref nl, .ref nc, .ref nF, .ref np, .ref ntr, .ref nb, .int mbestCost, .ref nso, .ref nsi, .ref nit, .ref nsh, .ref nsf, .ref nss, .ref nrc, .int (nI u.1), .int (nI jd), .int mnumber, .int mwhose, .int msize, .int u.2.1])), (nrc, .inl (G.2.1, 30, .inl u.2.2))]) := by
  refine MI.start (by decide +kernel) (Nat.le_of_ble_eq_true rfl) ?_
  intro p e s m below meth c A ls hC hK hP hD hS hA hl
  have hl : lv_has ls 6 [(0, .ref h0), (1, .int 5), (2, .int 0), (3, .int xx)] := hl
  obtain ⟨hx, hb, hr, hml, hB, hown, hlocks, hnm⟩ := id hC
  refine lv_iconst (v := 4) hx hb dX12_body_0 (by decide) ?_
  refine lv_iload_n hx hb dX12_body_1 rfl (lv_at hl 1 rfl) ?_
  refine lv_imul hx hb dX12_body_2 ?_
  refine eqi (x1 := 20) (by decide) ?_
  refine lv_iload_n hx hb dX12_body_3 rfl (lv_at hl 2 rfl) ?_
  refine lv_iadd hx hb dX12_body_4 ?_
  refine eqi (x1 := 20) (by decide) ?_
  refine lv_tableIn (tgt := 334) hx hb dX12_body_5 (by decide) (by decide) rfl (by decide) ?_
  refine lv_aload_n hx hb dX12_body_334 rfl (lv_at hl 0 rfl) ?_
  refine lv_bipush (v := 61) hx hb dX12_body_335 (by decide) ?_
  refine vV (wr := []) hC hK hl hP hD hS hA (m_began l G h0 61 nw nk mhasKept nt mtaped nr mrowMany mroundOf mroundFrom mouts nm mfromHour mtoHour ns mfrom mto msort misFault mdeep mcoded mlines nl nc nF np ntr nb mbestCost nso nsi nit nsh nsf nss nrc jr (nI jd) mnumber mwhose msize misParted fnrc (by omega)) si_X12_366 [0, 1] [] rfl rfl (by decide) rfl (by decide) (by decide) rfl rfl rfl rfl rfl (Nat.le_of_ble_eq_true rfl) ⟨Nat.le_of_ble_eq_true rfl, Nat.le_of_ble_eq_true rfl⟩ ⟨Nat.le_of_ble_eq_true rfl, Nat.le_of_ble_eq_true rfl⟩ dX12_body_337 (fun u5569 H locs hr5568 hP hD hS => ?_)
  obtain ⟨jr15570, gtrc5571⟩ := u5569
  try dsimp only at hr5568
  have hP : va_P G.1 vwCl [(h0, .inr (12, [.ref nw, .ref nk, .int mhasKept, .ref nt, .int mtaped, .ref nr, .int mrowMany, .int mroundOf, .int mroundFrom, .int mouts, .ref nm, .int mfromHour, .int mtoHour, .ref ns, .int mfrom, .int mto, .int msort, .int misFault, .int mdeep, .int mcoded, .int mlines, .ref nl, .ref nc, .ref nF, .ref np, .ref ntr, .ref nb, .int mbestCost, .ref nso, .ref nsi, .ref nit, .ref nsh, .ref nsf, .ref nss, .ref nrc, .int (nI jr15570), .int (nI jd), .int mnumber, .int mwhose, .int msize, .int misParted])), (nrc, .inl (G.2.1, 30, .inl gtrc5571))] H := hP
  have hD : va_D A [(h0, .inr (12, [.ref nw, .ref nk, .int mhasKept, .ref nt, .int mtaped, .ref nr, .int mrowMany, .int mroundOf, .int mroundFrom, .int mouts, .ref nm, .int mfromHour, .int mtoHour, .ref ns, .int mfrom, .int mto, .int msort, .int misFault, .int mdeep, .int mcoded, .int mlines, .ref nl, .ref nc, .ref nF, .ref np, .ref ntr, .ref nb, .int mbestCost, .ref nso, .ref nsi, .ref nit, .ref nsh, .ref nsf, .ref nss, .ref nrc, .int (nI jr15570), .int (nI jd), .int mnumber, .int mwhose, .int msize, .int misParted])), (nrc, .inl (G.2.1, 30, .inl gtrc5571))] := hD
  have w5572 := hr5568
  refine lv_aload_n hx hb dX12_body_340 rfl (lv_at hl 0 rfl) ?_
  refine lv_iconst (v := 4) hx hb dX12_body_341 (by decide) ?_
  refine lv_iconst (v := 0) hx hb dX12_body_342 (by decide) ?_
  refine lv_iload_n hx hb dX12_body_343 rfl (lv_at hl 3 rfl) ?_
  refine lv_aload_n hx hb dX12_body_344 rfl (lv_at hl 0 rfl) ?_
  refine gf_X12_375 hC rfl hK hP 0 rfl rfl dX12_body_345 ?_
  refine lv_iadd hx hb dX12_body_348 ?_
  refine iV (wr := []) hC hK hl hP hD hS hA (m_from40 l G h0 (xx + mwhose) nw nk mhasKept nt mtaped nr mrowMany mroundOf mroundFrom mouts nm mfromHour mtoHour ns mfrom mto msort misFault mdeep mcoded mlines nl nc nF np ntr nb mbestCost nso nsi nit nsh nsf nss nrc jr15570 jd mnumber mwhose msize misParted gtrc5571 (by omega) (by omega)) si_X12_357 [0, 1] [] rfl rfl (by decide) rfl (by decide) (by decide) rfl rfl rfl rfl rfl (Nat.le_of_ble_eq_true rfl) ⟨Nat.le_of_ble_eq_true rfl, Nat.le_of_ble_eq_true rfl⟩ ⟨Nat.le_of_ble_eq_true rfl, Nat.le_of_ble_eq_true rfl⟩ dX12_body_349 (fun r5573 u5574 H locs hr5573 hP hD hS => ?_)
  obtain ⟨jr15575, ip15576, gtrc5577⟩ := u5574
  try dsimp only at hr5573
  have hP : va_P G.1 vwCl [(h0, .inr (12, [.ref nw, .ref nk, .int mhasKept, .ref nt, .int mtaped, .ref nr, .int mrowMany, .int mroundOf, .int mroundFrom, .int mouts, .ref nm, .int mfromHour, .int mtoHour, .ref ns, .int mfrom, .int mto, .int msort, .int misFault, .int mdeep, .int mcoded, .int mlines, .ref nl, .ref nc, .ref nF, .ref np, .ref ntr, .ref nb, .int mbestCost, .ref nso, .ref nsi, .ref nit, .ref nsh, .ref nsf, .ref nss, .ref nrc, .int (nI jr15575), .int (nI jd), .int mnumber, .int mwhose, .int msize, .int ip15576])), (nrc, .inl (G.2.1, 30, .inl gtrc5577))] H := hP
  have hD : va_D A [(h0, .inr (12, [.ref nw, .ref nk, .int mhasKept, .ref nt, .int mtaped, .ref nr, .int mrowMany, .int mroundOf, .int mroundFrom, .int mouts, .ref nm, .int mfromHour, .int mtoHour, .ref ns, .int mfrom, .int mto, .int msort, .int misFault, .int mdeep, .int mcoded, .int mlines, .ref nl, .ref nc, .ref nF, .ref np, .ref ntr, .ref nb, .int mbestCost, .ref nso, .ref nsi, .ref nit, .ref nsh, .ref nsf, .ref nss, .ref nrc, .int (nI jr15575), .int (nI jd), .int mnumber, .int mwhose, .int msize, .int ip15576])), (nrc, .inl (G.2.1, 30, .inl gtrc5577))] := hD
  obtain ⟨hr5573, w5578⟩ := hr5573
  exact RI (v := r5573) hC hP hD hS [0, 1] (jr15575, ip15576, gtrc5577) rfl rfl (by decide) (⟨trivial, by omega⟩) rfl dX12_body_352
set_option maxHeartbeats 4000000 in
set_option maxRecDepth 100000 in
theorem m_from50 (l : Launch) (G : GG) (h0 : Nat) (xx : Int32) (nw : Nat) (nk : Nat) (mhasKept : Int32) (nt : Nat) (mtaped : Int32) (nr : Nat) (mrowMany : Int32) (mroundOf : Int32) (mroundFrom : Int32) (mouts : Int32) (nm : Nat) (mfromHour : Int32) (mtoHour : Int32) (ns : Nat) (mfrom : Int32) (mto : Int32) (msort : Int32) (misFault : Int32) (mdeep : Int32) (mcoded : Int32) (mlines : Int32) (nl : Nat) (nc : Nat) (nF : Nat) (np : Nat) (ntr : Nat) (nb : Nat) (mbestCost : Int32) (nso : Nat) (nsi : Nat) (nit : Nat) (nsh : Nat) (nsf : Nat) (nss : Nat) (nrc : Nat) (jr : Nat) (jd : Nat) (mnumber : Int32) (mwhose : Int32) (msize : Int32) (misParted : Int32) (fnrc : Nat → Int32) (hjr : jr ≤ 30) (hjd : jd < 7) : MI l G yX12_bodyFrom cX12_bodyFrom 5 (some .int) 8 0 0 [.ref h0, .int 5, .int 0, .int xx] [(h0, .inr (12, [.ref nw, .ref nk, .int mhasKept, .ref nt, .int mtaped, .ref nr, .int mrowMany, .int mroundOf, .int mroundFrom, .int mouts, .ref nm, .int mfromHour, .int mtoHour, .ref ns, .int mfrom, .int mto, .int msort, .int misFault, .int mdeep, .int mcoded, .int mlines, .ref nl, .ref nc, .ref nF, .ref np, .ref ntr, .ref nb, .int mbestCost, .ref nso, .ref nsi, .ref nit, .ref nsh, .ref nsf, .ref nss, .ref nrc, .int (nI jr), .int (nI jd), .int mnumber, .int mwhose, .int msize, .int misParted])), (nrc, .inl (G.2.1, 30, .inl fnrc))] (fun (r : Int32) (u : Nat × Int32 × (Nat → Int32)) => (True) ∧ (u.1 ≤ 30)) (fun u : Nat × Int32 × (Nat → Int32) => [(h0, .inr (12, [.ref nw, .ref nk, .int mhasKept, .ref nt, .int mtaped, .ref nr, .int mrowMany, .int mroundOf, .int mroundFrom, .int mouts, .ref nm, .int mfromHour, .int mtoHour, .ref ns, .int mfrom, .int mto, .int msort, .int misFault, .int mdeep, .int mcoded, .int mlines, .ref nl, .ref nc, .ref nF, .ref np, .ref ntr, .ref nb, .int mbestCost, .ref nso, .ref nsi, .ref nit, .ref nsh, .ref nsf, .ref nss, .ref nrc, .int (nI u.1), .int (nI jd), .int mnumber, .int mwhose, .int msize, .int u.2.1])), (nrc, .inl (G.2.1, 30, .inl u.2.2))]) := by
  refine MI.start (by decide +kernel) (Nat.le_of_ble_eq_true rfl) ?_
  intro p e s m below meth c A ls hC hK hP hD hS hA hl
  have hl : lv_has ls 5 [(0, .ref h0), (1, .int 5), (2, .int 0), (3, .int xx)] := hl
  obtain ⟨hx, hb, hr, hml, hB, hown, hlocks, hnm⟩ := id hC
  refine lv_iload_n hx hb dX12_bodyFrom_0 rfl (lv_at hl 1 rfl) ?_
  refine lv_istore (lv' := [(4, .int 5), (0, .ref h0), (1, .int 5), (2, .int 0), (3, .int xx)]) hx hb dX12_bodyFrom_1 hl (by decide) rfl (fun ls hl => ?_)
  refine lv_iload hx hb dX12_bodyFrom_3 (lv_at hl 0 rfl) ?_
  refine lv_iload_n hx hb dX12_bodyFrom_5 rfl (lv_at hl 3 rfl) ?_
  refine pS hC hK hl (m_hasOwn50 l G) si_X12_360 rfl rfl (Nat.le_of_ble_eq_true rfl) ⟨Nat.le_of_ble_eq_true rfl, Nat.le_of_ble_eq_true rfl⟩ ⟨by first | exact Nat.le_of_ble_eq_true rfl | exact Nat.zero_le _, by first | exact Nat.le_of_ble_eq_true rfl | exact Nat.zero_le _⟩ dX12_bodyFrom_6 (fun r5579 hr5579 => ?_)
  obtain rfl := hr5579
  refine lv_if_ne (tgt := 22) hx hb dX12_bodyFrom_9 (by decide) (fun _ => ?_) (fun c9 => absurd c9 (by decide))
  refine lv_aload_n hx hb dX12_bodyFrom_22 rfl (lv_at hl 1 rfl) ?_
  refine lv_iload hx hb dX12_bodyFrom_23 (lv_at hl 0 rfl) ?_
  refine lv_iload_n hx hb dX12_bodyFrom_25 rfl (lv_at hl 3 rfl) ?_
  refine lv_iload_n hx hb dX12_bodyFrom_26 rfl (lv_at hl 4 rfl) ?_
  refine iV (wr := []) hC hK hl hP hD hS hA (m_body50 l G h0 xx nw nk mhasKept nt mtaped nr mrowMany mroundOf mroundFrom mouts nm mfromHour mtoHour ns mfrom mto msort misFault mdeep mcoded mlines nl nc nF np ntr nb mbestCost nso nsi nit nsh nsf nss nrc jr jd mnumber mwhose msize misParted fnrc (by omega) (by omega)) si_X12_363 [0, 1] [] rfl rfl (by decide) rfl (by decide) (by decide) rfl rfl rfl rfl rfl (Nat.le_of_ble_eq_true rfl) ⟨Nat.le_of_ble_eq_true rfl, Nat.le_of_ble_eq_true rfl⟩ ⟨Nat.le_of_ble_eq_true rfl, Nat.le_of_ble_eq_true rfl⟩ dX12_bodyFrom_27 (fun r5581 u5582 H locs hr5581 hP hD hS => ?_)
  obtain ⟨jr15583, ip15584, gtrc5585⟩ := u5582
  try dsimp only at hr5581
  have hP : va_P G.1 vwCl [(h0, .inr (12, [.ref nw, .ref nk, .int mhasKept, .ref nt, .int mtaped, .ref nr, .int mrowMany, .int mroundOf, .int mroundFrom, .int mouts, .ref nm, .int mfromHour, .int mtoHour, .ref ns, .int mfrom, .int mto, .int msort, .int misFault, .int mdeep, .int mcoded, .int mlines, .ref nl, .ref nc, .ref nF, .ref np, .ref ntr, .ref nb, .int mbestCost, .ref nso, .ref nsi, .ref nit, .ref nsh, .ref nsf, .ref nss, .ref nrc, .int (nI jr15583), .int (nI jd), .int mnumber, .int mwhose, .int msize, .int ip15584])), (nrc, .inl (G.2.1, 30, .inl gtrc5585))] H := hP
  have hD : va_D A [(h0, .inr (12, [.ref nw, .ref nk, .int mhasKept, .ref nt, .int mtaped, .ref nr, .int mrowMany, .int mroundOf, .int mroundFrom, .int mouts, .ref nm, .int mfromHour, .int mtoHour, .ref ns, .int mfrom, .int mto, .int msort, .int misFault, .int mdeep, .int mcoded, .int mlines, .ref nl, .ref nc, .ref nF, .ref np, .ref ntr, .ref nb, .int mbestCost, .ref nso, .ref nsi, .ref nit, .ref nsh, .ref nsf, .ref nss, .ref nrc, .int (nI jr15583), .int (nI jd), .int mnumber, .int mwhose, .int msize, .int ip15584])), (nrc, .inl (G.2.1, 30, .inl gtrc5585))] := hD
  obtain ⟨hr5581, w5586⟩ := hr5581
  exact RI (v := r5581) hC hP hD hS [0, 1] (jr15583, ip15584, gtrc5585) rfl rfl (by decide) (⟨trivial, by omega⟩) rfl dX12_bodyFrom_30
set_option maxHeartbeats 4000000 in
set_option maxRecDepth 100000 in
theorem m_from10 (l : Launch) (G : GG) (h0 : Nat) (xx : Int32) (nw : Nat) (nk : Nat) (mhasKept : Int32) (nt : Nat) (mtaped : Int32) (nr : Nat) (mrowMany : Int32) (mroundOf : Int32) (mroundFrom : Int32) (mouts : Int32) (nm : Nat) (mfromHour : Int32) (mtoHour : Int32) (ns : Nat) (mfrom : Int32) (mto : Int32) (msort : Int32) (misFault : Int32) (mdeep : Int32) (mcoded : Int32) (mlines : Int32) (nl : Nat) (nc : Nat) (nF : Nat) (np : Nat) (ntr : Nat) (nb : Nat) (mbestCost : Int32) (nso : Nat) (nsi : Nat) (nit : Nat) (nsh : Nat) (nsf : Nat) (nss : Nat) (nrc : Nat) (jr : Nat) (jd : Nat) (mnumber : Int32) (mwhose : Int32) (msize : Int32) (misParted : Int32) (fnrc : Nat → Int32) (hjr : jr ≤ 30) (hjd : jd < 7) : MI l G yX12_bodyFrom cX12_bodyFrom 5 (some .int) 12 0 0 [.ref h0, .int 1, .int 0, .int xx] [(h0, .inr (12, [.ref nw, .ref nk, .int mhasKept, .ref nt, .int mtaped, .ref nr, .int mrowMany, .int mroundOf, .int mroundFrom, .int mouts, .ref nm, .int mfromHour, .int mtoHour, .ref ns, .int mfrom, .int mto, .int msort, .int misFault, .int mdeep, .int mcoded, .int mlines, .ref nl, .ref nc, .ref nF, .ref np, .ref ntr, .ref nb, .int mbestCost, .ref nso, .ref nsi, .ref nit, .ref nsh, .ref nsf, .ref nss, .ref nrc, .int (nI jr), .int (nI jd), .int mnumber, .int mwhose, .int msize, .int misParted])), (nrc, .inl (G.2.1, 30, .inl fnrc))] (fun (r : Int32) (u : Nat × Int32 × (Nat → Int32)) => (True) ∧ (u.1 ≤ 30)) (fun u : Nat × Int32 × (Nat → Int32) => [(h0, .inr (12, [.ref nw, .ref nk, .int mhasKept, .ref nt, .int mtaped, .ref nr, .int mrowMany, .int mroundOf, .int mroundFrom, .int mouts, .ref nm, .int mfromHour, .int mtoHour, .ref ns, .int mfrom, .int mto, .int msort, .int misFault, .int mdeep, .int mcoded, .int mlines, .ref nl, .ref nc, .ref nF, .ref np, .ref ntr, .ref nb, .int mbestCost, .ref nso, .ref nsi, .ref nit, .ref nsh, .ref nsf, .ref nss, .ref nrc, .int (nI u.1), .int (nI jd), .int mnumber, .int mwhose, .int msize, .int u.2.1])), (nrc, .inl (G.2.1, 30, .inl u.2.2))]) := by
  refine MI.start (by decide +kernel) (Nat.le_of_ble_eq_true rfl) ?_
  intro p e s m below meth c A ls hC hK hP hD hS hA hl
  have hl : lv_has ls 5 [(0, .ref h0), (1, .int 1), (2, .int 0), (3, .int xx)] := hl
  obtain ⟨hx, hb, hr, hml, hB, hown, hlocks, hnm⟩ := id hC
  refine lv_iload_n hx hb dX12_bodyFrom_0 rfl (lv_at hl 1 rfl) ?_
  refine lv_istore (lv' := [(4, .int 1), (0, .ref h0), (1, .int 1), (2, .int 0), (3, .int xx)]) hx hb dX12_bodyFrom_1 hl (by decide) rfl (fun ls hl => ?_)
  refine lv_iload hx hb dX12_bodyFrom_3 (lv_at hl 0 rfl) ?_
  refine lv_iload_n hx hb dX12_bodyFrom_5 rfl (lv_at hl 3 rfl) ?_
  refine pS hC hK hl (m_hasOwn10 l G) si_X12_360 rfl rfl (Nat.le_of_ble_eq_true rfl) ⟨Nat.le_of_ble_eq_true rfl, Nat.le_of_ble_eq_true rfl⟩ ⟨by first | exact Nat.le_of_ble_eq_true rfl | exact Nat.zero_le _, by first | exact Nat.le_of_ble_eq_true rfl | exact Nat.zero_le _⟩ dX12_bodyFrom_6 (fun r5587 hr5587 => ?_)
  obtain rfl := hr5587
  refine lv_if_ne (tgt := 22) hx hb dX12_bodyFrom_9 (by decide) (fun c9 => absurd (by decide) c9) (fun _ => ?_)
  refine lv_iload hx hb dX12_bodyFrom_12 (lv_at hl 0 rfl) ?_
  refine pS hC hK hl (m_above1 l G) si_X12_348 rfl rfl (Nat.le_of_ble_eq_true rfl) ⟨Nat.le_of_ble_eq_true rfl, Nat.le_of_ble_eq_true rfl⟩ ⟨by first | exact Nat.le_of_ble_eq_true rfl | exact Nat.zero_le _, by first | exact Nat.le_of_ble_eq_true rfl | exact Nat.zero_le _⟩ dX12_bodyFrom_14 (fun r5589 hr5589 => ?_)
  obtain rfl := hr5589
  refine lv_istore (lv' := [(4, .int 0), (0, .ref h0), (1, .int 1), (2, .int 0), (3, .int xx)]) hx hb dX12_bodyFrom_17 hl (by decide) rfl (fun ls hl => ?_)
  refine lv_goto (tgt := 3) hx hb dX12_bodyFrom_19 (by decide) ?_
  refine lv_iload hx hb dX12_bodyFrom_3 (lv_at hl 0 rfl) ?_
  refine lv_iload_n hx hb dX12_bodyFrom_5 rfl (lv_at hl 3 rfl) ?_
  refine pS hC hK hl (m_hasOwn00 l G) si_X12_360 rfl rfl (Nat.le_of_ble_eq_true rfl) ⟨Nat.le_of_ble_eq_true rfl, Nat.le_of_ble_eq_true rfl⟩ ⟨by first | exact Nat.le_of_ble_eq_true rfl | exact Nat.zero_le _, by first | exact Nat.le_of_ble_eq_true rfl | exact Nat.zero_le _⟩ dX12_bodyFrom_6 (fun r5591 hr5591 => ?_)
  obtain rfl := hr5591
  refine lv_if_ne (tgt := 22) hx hb dX12_bodyFrom_9 (by decide) (fun _ => ?_) (fun c9 => absurd c9 (by decide))
  refine lv_aload_n hx hb dX12_bodyFrom_22 rfl (lv_at hl 1 rfl) ?_
  refine lv_iload hx hb dX12_bodyFrom_23 (lv_at hl 0 rfl) ?_
  refine lv_iload_n hx hb dX12_bodyFrom_25 rfl (lv_at hl 3 rfl) ?_
  refine lv_iload_n hx hb dX12_bodyFrom_26 rfl (lv_at hl 4 rfl) ?_
  refine iV (wr := []) hC hK hl hP hD hS hA (m_body00 l G h0 xx nw nk mhasKept nt mtaped nr mrowMany mroundOf mroundFrom mouts nm mfromHour mtoHour ns mfrom mto msort misFault mdeep mcoded mlines nl nc nF np ntr nb mbestCost nso nsi nit nsh nsf nss nrc jr jd mnumber mwhose msize misParted fnrc (by omega) (by omega)) si_X12_363 [0, 1] [] rfl rfl (by decide) rfl (by decide) (by decide) rfl rfl rfl rfl rfl (Nat.le_of_ble_eq_true rfl) ⟨Nat.le_of_ble_eq_true rfl, Nat.le_of_ble_eq_true rfl⟩ ⟨Nat.le_of_ble_eq_true rfl, Nat.le_of_ble_eq_true rfl⟩ dX12_bodyFrom_27 (fun r5593 u5594 H locs hr5593 hP hD hS => ?_)
  obtain ⟨jr15595, ip15596, gtrc5597⟩ := u5594
  try dsimp only at hr5593
  have hP : va_P G.1 vwCl [(h0, .inr (12, [.ref nw, .ref nk, .int mhasKept, .ref nt, .int mtaped, .ref nr, .int mrowMany, .int mroundOf, .int mroundFrom, .int mouts, .ref nm, .int mfromHour, .int mtoHour, .ref ns, .int mfrom, .int mto, .int msort, .int misFault, .int mdeep, .int mcoded, .int mlines, .ref nl, .ref nc, .ref nF, .ref np, .ref ntr, .ref nb, .int mbestCost, .ref nso, .ref nsi, .ref nit, .ref nsh, .ref nsf, .ref nss, .ref nrc, .int (nI jr15595), .int (nI jd), .int mnumber, .int mwhose, .int msize, .int ip15596])), (nrc, .inl (G.2.1, 30, .inl gtrc5597))] H := hP
  have hD : va_D A [(h0, .inr (12, [.ref nw, .ref nk, .int mhasKept, .ref nt, .int mtaped, .ref nr, .int mrowMany, .int mroundOf, .int mroundFrom, .int mouts, .ref nm, .int mfromHour, .int mtoHour, .ref ns, .int mfrom, .int mto, .int msort, .int misFault, .int mdeep, .int mcoded, .int mlines, .ref nl, .ref nc, .ref nF, .ref np, .ref ntr, .ref nb, .int mbestCost, .ref nso, .ref nsi, .ref nit, .ref nsh, .ref nsf, .ref nss, .ref nrc, .int (nI jr15595), .int (nI jd), .int mnumber, .int mwhose, .int msize, .int ip15596])), (nrc, .inl (G.2.1, 30, .inl gtrc5597))] := hD
  obtain ⟨hr5593, w5598⟩ := hr5593
  exact RI (v := r5593) hC hP hD hS [0, 1] (jr15595, ip15596, gtrc5597) rfl rfl (by decide) (⟨trivial, by omega⟩) rfl dX12_bodyFrom_30
set_option maxHeartbeats 4000000 in
set_option maxRecDepth 100000 in
theorem m_from20 (l : Launch) (G : GG) (h0 : Nat) (xx : Int32) (nw : Nat) (nk : Nat) (mhasKept : Int32) (nt : Nat) (mtaped : Int32) (nr : Nat) (mrowMany : Int32) (mroundOf : Int32) (mroundFrom : Int32) (mouts : Int32) (nm : Nat) (mfromHour : Int32) (mtoHour : Int32) (ns : Nat) (mfrom : Int32) (mto : Int32) (msort : Int32) (misFault : Int32) (mdeep : Int32) (mcoded : Int32) (mlines : Int32) (nl : Nat) (nc : Nat) (nF : Nat) (np : Nat) (ntr : Nat) (nb : Nat) (mbestCost : Int32) (nso : Nat) (nsi : Nat) (nit : Nat) (nsh : Nat) (nsf : Nat) (nss : Nat) (nrc : Nat) (jr : Nat) (jd : Nat) (mnumber : Int32) (mwhose : Int32) (msize : Int32) (misParted : Int32) (fnrc : Nat → Int32) (hjr : jr ≤ 30) (hjd : jd < 7) : MI l G yX12_bodyFrom cX12_bodyFrom 5 (some .int) 12 0 0 [.ref h0, .int 2, .int 0, .int xx] [(h0, .inr (12, [.ref nw, .ref nk, .int mhasKept, .ref nt, .int mtaped, .ref nr, .int mrowMany, .int mroundOf, .int mroundFrom, .int mouts, .ref nm, .int mfromHour, .int mtoHour, .ref ns, .int mfrom, .int mto, .int msort, .int misFault, .int mdeep, .int mcoded, .int mlines, .ref nl, .ref nc, .ref nF, .ref np, .ref ntr, .ref nb, .int mbestCost, .ref nso, .ref nsi, .ref nit, .ref nsh, .ref nsf, .ref nss, .ref nrc, .int (nI jr), .int (nI jd), .int mnumber, .int mwhose, .int msize, .int misParted])), (nrc, .inl (G.2.1, 30, .inl fnrc))] (fun (r : Int32) (u : Nat × Int32 × (Nat → Int32)) => (True) ∧ (u.1 ≤ 30)) (fun u : Nat × Int32 × (Nat → Int32) => [(h0, .inr (12, [.ref nw, .ref nk, .int mhasKept, .ref nt, .int mtaped, .ref nr, .int mrowMany, .int mroundOf, .int mroundFrom, .int mouts, .ref nm, .int mfromHour, .int mtoHour, .ref ns, .int mfrom, .int mto, .int msort, .int misFault, .int mdeep, .int mcoded, .int mlines, .ref nl, .ref nc, .ref nF, .ref np, .ref ntr, .ref nb, .int mbestCost, .ref nso, .ref nsi, .ref nit, .ref nsh, .ref nsf, .ref nss, .ref nrc, .int (nI u.1), .int (nI jd), .int mnumber, .int mwhose, .int msize, .int u.2.1])), (nrc, .inl (G.2.1, 30, .inl u.2.2))]) := by
  refine MI.start (by decide +kernel) (Nat.le_of_ble_eq_true rfl) ?_
  intro p e s m below meth c A ls hC hK hP hD hS hA hl
  have hl : lv_has ls 5 [(0, .ref h0), (1, .int 2), (2, .int 0), (3, .int xx)] := hl
  obtain ⟨hx, hb, hr, hml, hB, hown, hlocks, hnm⟩ := id hC
  refine lv_iload_n hx hb dX12_bodyFrom_0 rfl (lv_at hl 1 rfl) ?_
  refine lv_istore (lv' := [(4, .int 2), (0, .ref h0), (1, .int 2), (2, .int 0), (3, .int xx)]) hx hb dX12_bodyFrom_1 hl (by decide) rfl (fun ls hl => ?_)
  refine lv_iload hx hb dX12_bodyFrom_3 (lv_at hl 0 rfl) ?_
  refine lv_iload_n hx hb dX12_bodyFrom_5 rfl (lv_at hl 3 rfl) ?_
  refine pS hC hK hl (m_hasOwn20 l G) si_X12_360 rfl rfl (Nat.le_of_ble_eq_true rfl) ⟨Nat.le_of_ble_eq_true rfl, Nat.le_of_ble_eq_true rfl⟩ ⟨by first | exact Nat.le_of_ble_eq_true rfl | exact Nat.zero_le _, by first | exact Nat.le_of_ble_eq_true rfl | exact Nat.zero_le _⟩ dX12_bodyFrom_6 (fun r5599 hr5599 => ?_)
  obtain rfl := hr5599
  refine lv_if_ne (tgt := 22) hx hb dX12_bodyFrom_9 (by decide) (fun c9 => absurd (by decide) c9) (fun _ => ?_)
  refine lv_iload hx hb dX12_bodyFrom_12 (lv_at hl 0 rfl) ?_
  refine pS hC hK hl (m_above2 l G) si_X12_348 rfl rfl (Nat.le_of_ble_eq_true rfl) ⟨Nat.le_of_ble_eq_true rfl, Nat.le_of_ble_eq_true rfl⟩ ⟨by first | exact Nat.le_of_ble_eq_true rfl | exact Nat.zero_le _, by first | exact Nat.le_of_ble_eq_true rfl | exact Nat.zero_le _⟩ dX12_bodyFrom_14 (fun r5601 hr5601 => ?_)
  obtain rfl := hr5601
  refine lv_istore (lv' := [(4, .int 0), (0, .ref h0), (1, .int 2), (2, .int 0), (3, .int xx)]) hx hb dX12_bodyFrom_17 hl (by decide) rfl (fun ls hl => ?_)
  refine lv_goto (tgt := 3) hx hb dX12_bodyFrom_19 (by decide) ?_
  refine lv_iload hx hb dX12_bodyFrom_3 (lv_at hl 0 rfl) ?_
  refine lv_iload_n hx hb dX12_bodyFrom_5 rfl (lv_at hl 3 rfl) ?_
  refine pS hC hK hl (m_hasOwn00 l G) si_X12_360 rfl rfl (Nat.le_of_ble_eq_true rfl) ⟨Nat.le_of_ble_eq_true rfl, Nat.le_of_ble_eq_true rfl⟩ ⟨by first | exact Nat.le_of_ble_eq_true rfl | exact Nat.zero_le _, by first | exact Nat.le_of_ble_eq_true rfl | exact Nat.zero_le _⟩ dX12_bodyFrom_6 (fun r5603 hr5603 => ?_)
  obtain rfl := hr5603
  refine lv_if_ne (tgt := 22) hx hb dX12_bodyFrom_9 (by decide) (fun _ => ?_) (fun c9 => absurd c9 (by decide))
  refine lv_aload_n hx hb dX12_bodyFrom_22 rfl (lv_at hl 1 rfl) ?_
  refine lv_iload hx hb dX12_bodyFrom_23 (lv_at hl 0 rfl) ?_
  refine lv_iload_n hx hb dX12_bodyFrom_25 rfl (lv_at hl 3 rfl) ?_
  refine lv_iload_n hx hb dX12_bodyFrom_26 rfl (lv_at hl 4 rfl) ?_
  refine iV (wr := []) hC hK hl hP hD hS hA (m_body00 l G h0 xx nw nk mhasKept nt mtaped nr mrowMany mroundOf mroundFrom mouts nm mfromHour mtoHour ns mfrom mto msort misFault mdeep mcoded mlines nl nc nF np ntr nb mbestCost nso nsi nit nsh nsf nss nrc jr jd mnumber mwhose msize misParted fnrc (by omega) (by omega)) si_X12_363 [0, 1] [] rfl rfl (by decide) rfl (by decide) (by decide) rfl rfl rfl rfl rfl (Nat.le_of_ble_eq_true rfl) ⟨Nat.le_of_ble_eq_true rfl, Nat.le_of_ble_eq_true rfl⟩ ⟨Nat.le_of_ble_eq_true rfl, Nat.le_of_ble_eq_true rfl⟩ dX12_bodyFrom_27 (fun r5605 u5606 H locs hr5605 hP hD hS => ?_)
  obtain ⟨jr15607, ip15608, gtrc5609⟩ := u5606
  try dsimp only at hr5605
  have hP : va_P G.1 vwCl [(h0, .inr (12, [.ref nw, .ref nk, .int mhasKept, .ref nt, .int mtaped, .ref nr, .int mrowMany, .int mroundOf, .int mroundFrom, .int mouts, .ref nm, .int mfromHour, .int mtoHour, .ref ns, .int mfrom, .int mto, .int msort, .int misFault, .int mdeep, .int mcoded, .int mlines, .ref nl, .ref nc, .ref nF, .ref np, .ref ntr, .ref nb, .int mbestCost, .ref nso, .ref nsi, .ref nit, .ref nsh, .ref nsf, .ref nss, .ref nrc, .int (nI jr15607), .int (nI jd), .int mnumber, .int mwhose, .int msize, .int ip15608])), (nrc, .inl (G.2.1, 30, .inl gtrc5609))] H := hP
  have hD : va_D A [(h0, .inr (12, [.ref nw, .ref nk, .int mhasKept, .ref nt, .int mtaped, .ref nr, .int mrowMany, .int mroundOf, .int mroundFrom, .int mouts, .ref nm, .int mfromHour, .int mtoHour, .ref ns, .int mfrom, .int mto, .int msort, .int misFault, .int mdeep, .int mcoded, .int mlines, .ref nl, .ref nc, .ref nF, .ref np, .ref ntr, .ref nb, .int mbestCost, .ref nso, .ref nsi, .ref nit, .ref nsh, .ref nsf, .ref nss, .ref nrc, .int (nI jr15607), .int (nI jd), .int mnumber, .int mwhose, .int msize, .int ip15608])), (nrc, .inl (G.2.1, 30, .inl gtrc5609))] := hD
  obtain ⟨hr5605, w5610⟩ := hr5605
  exact RI (v := r5605) hC hP hD hS [0, 1] (jr15607, ip15608, gtrc5609) rfl rfl (by decide) (⟨trivial, by omega⟩) rfl dX12_bodyFrom_30
set_option maxHeartbeats 4000000 in
set_option maxRecDepth 100000 in
theorem m_from30 (l : Launch) (G : GG) (h0 : Nat) (xx : Int32) (nw : Nat) (nk : Nat) (mhasKept : Int32) (nt : Nat) (mtaped : Int32) (nr : Nat) (mrowMany : Int32) (mroundOf : Int32) (mroundFrom : Int32) (mouts : Int32) (nm : Nat) (mfromHour : Int32) (mtoHour : Int32) (ns : Nat) (mfrom : Int32) (mto : Int32) (msort : Int32) (misFault : Int32) (mdeep : Int32) (mcoded : Int32) (mlines : Int32) (nl : Nat) (nc : Nat) (nF : Nat) (np : Nat) (ntr : Nat) (nb : Nat) (mbestCost : Int32) (nso : Nat) (nsi : Nat) (nit : Nat) (nsh : Nat) (nsf : Nat) (nss : Nat) (nrc : Nat) (jr : Nat) (jd : Nat) (mnumber : Int32) (mwhose : Int32) (msize : Int32) (misParted : Int32) (fnrc : Nat → Int32) (hjr : jr ≤ 30) (hjd : jd < 7) : MI l G yX12_bodyFrom cX12_bodyFrom 5 (some .int) 12 0 0 [.ref h0, .int 3, .int 0, .int xx] [(h0, .inr (12, [.ref nw, .ref nk, .int mhasKept, .ref nt, .int mtaped, .ref nr, .int mrowMany, .int mroundOf, .int mroundFrom, .int mouts, .ref nm, .int mfromHour, .int mtoHour, .ref ns, .int mfrom, .int mto, .int msort, .int misFault, .int mdeep, .int mcoded, .int mlines, .ref nl, .ref nc, .ref nF, .ref np, .ref ntr, .ref nb, .int mbestCost, .ref nso, .ref nsi, .ref nit, .ref nsh, .ref nsf, .ref nss, .ref nrc, .int (nI jr), .int (nI jd), .int mnumber, .int mwhose, .int msize, .int misParted])), (nrc, .inl (G.2.1, 30, .inl fnrc))] (fun (r : Int32) (u : Nat × Int32 × (Nat → Int32)) => (True) ∧ (u.1 ≤ 30)) (fun u : Nat × Int32 × (Nat → Int32) => [(h0, .inr (12, [.ref nw, .ref nk, .int mhasKept, .ref nt, .int mtaped, .ref nr, .int mrowMany, .int mroundOf, .int mroundFrom, .int mouts, .ref nm, .int mfromHour, .int mtoHour, .ref ns, .int mfrom, .int mto, .int msort, .int misFault, .int mdeep, .int mcoded, .int mlines, .ref nl, .ref nc, .ref nF, .ref np, .ref ntr, .ref nb, .int mbestCost, .ref nso, .ref nsi, .ref nit, .ref nsh, .ref nsf, .ref nss, .ref nrc, .int (nI u.1), .int (nI jd), .int mnumber, .int mwhose, .int msize, .int u.2.1])), (nrc, .inl (G.2.1, 30, .inl u.2.2))]) := by
  refine MI.start (by decide +kernel) (Nat.le_of_ble_eq_true rfl) ?_
  intro p e s m below meth c A ls hC hK hP hD hS hA hl
  have hl : lv_has ls 5 [(0, .ref h0), (1, .int 3), (2, .int 0), (3, .int xx)] := hl
  obtain ⟨hx, hb, hr, hml, hB, hown, hlocks, hnm⟩ := id hC
  refine lv_iload_n hx hb dX12_bodyFrom_0 rfl (lv_at hl 1 rfl) ?_
  refine lv_istore (lv' := [(4, .int 3), (0, .ref h0), (1, .int 3), (2, .int 0), (3, .int xx)]) hx hb dX12_bodyFrom_1 hl (by decide) rfl (fun ls hl => ?_)
  refine lv_iload hx hb dX12_bodyFrom_3 (lv_at hl 0 rfl) ?_
  refine lv_iload_n hx hb dX12_bodyFrom_5 rfl (lv_at hl 3 rfl) ?_
  refine pS hC hK hl (m_hasOwn30 l G) si_X12_360 rfl rfl (Nat.le_of_ble_eq_true rfl) ⟨Nat.le_of_ble_eq_true rfl, Nat.le_of_ble_eq_true rfl⟩ ⟨by first | exact Nat.le_of_ble_eq_true rfl | exact Nat.zero_le _, by first | exact Nat.le_of_ble_eq_true rfl | exact Nat.zero_le _⟩ dX12_bodyFrom_6 (fun r5611 hr5611 => ?_)
  obtain rfl := hr5611
  refine lv_if_ne (tgt := 22) hx hb dX12_bodyFrom_9 (by decide) (fun c9 => absurd (by decide) c9) (fun _ => ?_)
  refine lv_iload hx hb dX12_bodyFrom_12 (lv_at hl 0 rfl) ?_
  refine pS hC hK hl (m_above3 l G) si_X12_348 rfl rfl (Nat.le_of_ble_eq_true rfl) ⟨Nat.le_of_ble_eq_true rfl, Nat.le_of_ble_eq_true rfl⟩ ⟨by first | exact Nat.le_of_ble_eq_true rfl | exact Nat.zero_le _, by first | exact Nat.le_of_ble_eq_true rfl | exact Nat.zero_le _⟩ dX12_bodyFrom_14 (fun r5613 hr5613 => ?_)
  obtain rfl := hr5613
  refine lv_istore (lv' := [(4, .int 1), (0, .ref h0), (1, .int 3), (2, .int 0), (3, .int xx)]) hx hb dX12_bodyFrom_17 hl (by decide) rfl (fun ls hl => ?_)
  refine lv_goto (tgt := 3) hx hb dX12_bodyFrom_19 (by decide) ?_
  refine lv_iload hx hb dX12_bodyFrom_3 (lv_at hl 0 rfl) ?_
  refine lv_iload_n hx hb dX12_bodyFrom_5 rfl (lv_at hl 3 rfl) ?_
  refine pS hC hK hl (m_hasOwn10 l G) si_X12_360 rfl rfl (Nat.le_of_ble_eq_true rfl) ⟨Nat.le_of_ble_eq_true rfl, Nat.le_of_ble_eq_true rfl⟩ ⟨by first | exact Nat.le_of_ble_eq_true rfl | exact Nat.zero_le _, by first | exact Nat.le_of_ble_eq_true rfl | exact Nat.zero_le _⟩ dX12_bodyFrom_6 (fun r5615 hr5615 => ?_)
  obtain rfl := hr5615
  refine lv_if_ne (tgt := 22) hx hb dX12_bodyFrom_9 (by decide) (fun c9 => absurd (by decide) c9) (fun _ => ?_)
  refine lv_iload hx hb dX12_bodyFrom_12 (lv_at hl 0 rfl) ?_
  refine pS hC hK hl (m_above1 l G) si_X12_348 rfl rfl (Nat.le_of_ble_eq_true rfl) ⟨Nat.le_of_ble_eq_true rfl, Nat.le_of_ble_eq_true rfl⟩ ⟨by first | exact Nat.le_of_ble_eq_true rfl | exact Nat.zero_le _, by first | exact Nat.le_of_ble_eq_true rfl | exact Nat.zero_le _⟩ dX12_bodyFrom_14 (fun r5617 hr5617 => ?_)
  obtain rfl := hr5617
  refine lv_istore (lv' := [(4, .int 0), (0, .ref h0), (1, .int 3), (2, .int 0), (3, .int xx)]) hx hb dX12_bodyFrom_17 hl (by decide) rfl (fun ls hl => ?_)
  refine lv_goto (tgt := 3) hx hb dX12_bodyFrom_19 (by decide) ?_
  refine lv_iload hx hb dX12_bodyFrom_3 (lv_at hl 0 rfl) ?_
  refine lv_iload_n hx hb dX12_bodyFrom_5 rfl (lv_at hl 3 rfl) ?_
  refine pS hC hK hl (m_hasOwn00 l G) si_X12_360 rfl rfl (Nat.le_of_ble_eq_true rfl) ⟨Nat.le_of_ble_eq_true rfl, Nat.le_of_ble_eq_true rfl⟩ ⟨by first | exact Nat.le_of_ble_eq_true rfl | exact Nat.zero_le _, by first | exact Nat.le_of_ble_eq_true rfl | exact Nat.zero_le _⟩ dX12_bodyFrom_6 (fun r5619 hr5619 => ?_)
  obtain rfl := hr5619
  refine lv_if_ne (tgt := 22) hx hb dX12_bodyFrom_9 (by decide) (fun _ => ?_) (fun c9 => absurd c9 (by decide))
  refine lv_aload_n hx hb dX12_bodyFrom_22 rfl (lv_at hl 1 rfl) ?_
  refine lv_iload hx hb dX12_bodyFrom_23 (lv_at hl 0 rfl) ?_
  refine lv_iload_n hx hb dX12_bodyFrom_25 rfl (lv_at hl 3 rfl) ?_
  refine lv_iload_n hx hb dX12_bodyFrom_26 rfl (lv_at hl 4 rfl) ?_
  refine iV (wr := []) hC hK hl hP hD hS hA (m_body00 l G h0 xx nw nk mhasKept nt mtaped nr mrowMany mroundOf mroundFrom mouts nm mfromHour mtoHour ns mfrom mto msort misFault mdeep mcoded mlines nl nc nF np ntr nb mbestCost nso nsi nit nsh nsf nss nrc jr jd mnumber mwhose msize misParted fnrc (by omega) (by omega)) si_X12_363 [0, 1] [] rfl rfl (by decide) rfl (by decide) (by decide) rfl rfl rfl rfl rfl (Nat.le_of_ble_eq_true rfl) ⟨Nat.le_of_ble_eq_true rfl, Nat.le_of_ble_eq_true rfl⟩ ⟨Nat.le_of_ble_eq_true rfl, Nat.le_of_ble_eq_true rfl⟩ dX12_bodyFrom_27 (fun r5621 u5622 H locs hr5621 hP hD hS => ?_)
  obtain ⟨jr15623, ip15624, gtrc5625⟩ := u5622
  try dsimp only at hr5621
  have hP : va_P G.1 vwCl [(h0, .inr (12, [.ref nw, .ref nk, .int mhasKept, .ref nt, .int mtaped, .ref nr, .int mrowMany, .int mroundOf, .int mroundFrom, .int mouts, .ref nm, .int mfromHour, .int mtoHour, .ref ns, .int mfrom, .int mto, .int msort, .int misFault, .int mdeep, .int mcoded, .int mlines, .ref nl, .ref nc, .ref nF, .ref np, .ref ntr, .ref nb, .int mbestCost, .ref nso, .ref nsi, .ref nit, .ref nsh, .ref nsf, .ref nss, .ref nrc, .int (nI jr15623), .int (nI jd), .int mnumber, .int mwhose, .int msize, .int ip15624])), (nrc, .inl (G.2.1, 30, .inl gtrc5625))] H := hP
  have hD : va_D A [(h0, .inr (12, [.ref nw, .ref nk, .int mhasKept, .ref nt, .int mtaped, .ref nr, .int mrowMany, .int mroundOf, .int mroundFrom, .int mouts, .ref nm, .int mfromHour, .int mtoHour, .ref ns, .int mfrom, .int mto, .int msort, .int misFault, .int mdeep, .int mcoded, .int mlines, .ref nl, .ref nc, .ref nF, .ref np, .ref ntr, .ref nb, .int mbestCost, .ref nso, .ref nsi, .ref nit, .ref nsh, .ref nsf, .ref nss, .ref nrc, .int (nI jr15623), .int (nI jd), .int mnumber, .int mwhose, .int msize, .int ip15624])), (nrc, .inl (G.2.1, 30, .inl gtrc5625))] := hD
  obtain ⟨hr5621, w5626⟩ := hr5621
  exact RI (v := r5621) hC hP hD hS [0, 1] (jr15623, ip15624, gtrc5625) rfl rfl (by decide) (⟨trivial, by omega⟩) rfl dX12_bodyFrom_30
set_option maxHeartbeats 4000000 in
set_option maxRecDepth 100000 in
theorem m_from60 (l : Launch) (G : GG) (h0 : Nat) (xx : Int32) (nw : Nat) (nk : Nat) (mhasKept : Int32) (nt : Nat) (mtaped : Int32) (nr : Nat) (mrowMany : Int32) (mroundOf : Int32) (mroundFrom : Int32) (mouts : Int32) (nm : Nat) (mfromHour : Int32) (mtoHour : Int32) (ns : Nat) (mfrom : Int32) (mto : Int32) (msort : Int32) (misFault : Int32) (mdeep : Int32) (mcoded : Int32) (mlines : Int32) (nl : Nat) (nc : Nat) (nF : Nat) (np : Nat) (ntr : Nat) (nb : Nat) (mbestCost : Int32) (nso : Nat) (nsi : Nat) (nit : Nat) (nsh : Nat) (nsf : Nat) (nss : Nat) (nrc : Nat) (jr : Nat) (jd : Nat) (mnumber : Int32) (mwhose : Int32) (msize : Int32) (misParted : Int32) (fnrc : Nat → Int32) (hjr : jr ≤ 30) (hjd : jd < 7) : MI l G yX12_bodyFrom cX12_bodyFrom 5 (some .int) 12 0 0 [.ref h0, .int 6, .int 0, .int xx] [(h0, .inr (12, [.ref nw, .ref nk, .int mhasKept, .ref nt, .int mtaped, .ref nr, .int mrowMany, .int mroundOf, .int mroundFrom, .int mouts, .ref nm, .int mfromHour, .int mtoHour, .ref ns, .int mfrom, .int mto, .int msort, .int misFault, .int mdeep, .int mcoded, .int mlines, .ref nl, .ref nc, .ref nF, .ref np, .ref ntr, .ref nb, .int mbestCost, .ref nso, .ref nsi, .ref nit, .ref nsh, .ref nsf, .ref nss, .ref nrc, .int (nI jr), .int (nI jd), .int mnumber, .int mwhose, .int msize, .int misParted])), (nrc, .inl (G.2.1, 30, .inl fnrc))] (fun (r : Int32) (u : Nat × Int32 × (Nat → Int32)) => (True) ∧ (u.1 ≤ 30)) (fun u : Nat × Int32 × (Nat → Int32) => [(h0, .inr (12, [.ref nw, .ref nk, .int mhasKept, .ref nt, .int mtaped, .ref nr, .int mrowMany, .int mroundOf, .int mroundFrom, .int mouts, .ref nm, .int mfromHour, .int mtoHour, .ref ns, .int mfrom, .int mto, .int msort, .int misFault, .int mdeep, .int mcoded, .int mlines, .ref nl, .ref nc, .ref nF, .ref np, .ref ntr, .ref nb, .int mbestCost, .ref nso, .ref nsi, .ref nit, .ref nsh, .ref nsf, .ref nss, .ref nrc, .int (nI u.1), .int (nI jd), .int mnumber, .int mwhose, .int msize, .int u.2.1])), (nrc, .inl (G.2.1, 30, .inl u.2.2))]) := by
  refine MI.start (by decide +kernel) (Nat.le_of_ble_eq_true rfl) ?_
  intro p e s m below meth c A ls hC hK hP hD hS hA hl
  have hl : lv_has ls 5 [(0, .ref h0), (1, .int 6), (2, .int 0), (3, .int xx)] := hl
  obtain ⟨hx, hb, hr, hml, hB, hown, hlocks, hnm⟩ := id hC
  refine lv_iload_n hx hb dX12_bodyFrom_0 rfl (lv_at hl 1 rfl) ?_
  refine lv_istore (lv' := [(4, .int 6), (0, .ref h0), (1, .int 6), (2, .int 0), (3, .int xx)]) hx hb dX12_bodyFrom_1 hl (by decide) rfl (fun ls hl => ?_)
  refine lv_iload hx hb dX12_bodyFrom_3 (lv_at hl 0 rfl) ?_
  refine lv_iload_n hx hb dX12_bodyFrom_5 rfl (lv_at hl 3 rfl) ?_
  refine pS hC hK hl (m_hasOwn60 l G) si_X12_360 rfl rfl (Nat.le_of_ble_eq_true rfl) ⟨Nat.le_of_ble_eq_true rfl, Nat.le_of_ble_eq_true rfl⟩ ⟨by first | exact Nat.le_of_ble_eq_true rfl | exact Nat.zero_le _, by first | exact Nat.le_of_ble_eq_true rfl | exact Nat.zero_le _⟩ dX12_bodyFrom_6 (fun r5627 hr5627 => ?_)
  obtain rfl := hr5627
  refine lv_if_ne (tgt := 22) hx hb dX12_bodyFrom_9 (by decide) (fun c9 => absurd (by decide) c9) (fun _ => ?_)
  refine lv_iload hx hb dX12_bodyFrom_12 (lv_at hl 0 rfl) ?_
  refine pS hC hK hl (m_above6 l G) si_X12_348 rfl rfl (Nat.le_of_ble_eq_true rfl) ⟨Nat.le_of_ble_eq_true rfl, Nat.le_of_ble_eq_true rfl⟩ ⟨by first | exact Nat.le_of_ble_eq_true rfl | exact Nat.zero_le _, by first | exact Nat.le_of_ble_eq_true rfl | exact Nat.zero_le _⟩ dX12_bodyFrom_14 (fun r5629 hr5629 => ?_)
  obtain rfl := hr5629
  refine lv_istore (lv' := [(4, .int 0), (0, .ref h0), (1, .int 6), (2, .int 0), (3, .int xx)]) hx hb dX12_bodyFrom_17 hl (by decide) rfl (fun ls hl => ?_)
  refine lv_goto (tgt := 3) hx hb dX12_bodyFrom_19 (by decide) ?_
  refine lv_iload hx hb dX12_bodyFrom_3 (lv_at hl 0 rfl) ?_
  refine lv_iload_n hx hb dX12_bodyFrom_5 rfl (lv_at hl 3 rfl) ?_
  refine pS hC hK hl (m_hasOwn00 l G) si_X12_360 rfl rfl (Nat.le_of_ble_eq_true rfl) ⟨Nat.le_of_ble_eq_true rfl, Nat.le_of_ble_eq_true rfl⟩ ⟨by first | exact Nat.le_of_ble_eq_true rfl | exact Nat.zero_le _, by first | exact Nat.le_of_ble_eq_true rfl | exact Nat.zero_le _⟩ dX12_bodyFrom_6 (fun r5631 hr5631 => ?_)
  obtain rfl := hr5631
  refine lv_if_ne (tgt := 22) hx hb dX12_bodyFrom_9 (by decide) (fun _ => ?_) (fun c9 => absurd c9 (by decide))
  refine lv_aload_n hx hb dX12_bodyFrom_22 rfl (lv_at hl 1 rfl) ?_
  refine lv_iload hx hb dX12_bodyFrom_23 (lv_at hl 0 rfl) ?_
  refine lv_iload_n hx hb dX12_bodyFrom_25 rfl (lv_at hl 3 rfl) ?_
  refine lv_iload_n hx hb dX12_bodyFrom_26 rfl (lv_at hl 4 rfl) ?_
  refine iV (wr := []) hC hK hl hP hD hS hA (m_body00 l G h0 xx nw nk mhasKept nt mtaped nr mrowMany mroundOf mroundFrom mouts nm mfromHour mtoHour ns mfrom mto msort misFault mdeep mcoded mlines nl nc nF np ntr nb mbestCost nso nsi nit nsh nsf nss nrc jr jd mnumber mwhose msize misParted fnrc (by omega) (by omega)) si_X12_363 [0, 1] [] rfl rfl (by decide) rfl (by decide) (by decide) rfl rfl rfl rfl rfl (Nat.le_of_ble_eq_true rfl) ⟨Nat.le_of_ble_eq_true rfl, Nat.le_of_ble_eq_true rfl⟩ ⟨Nat.le_of_ble_eq_true rfl, Nat.le_of_ble_eq_true rfl⟩ dX12_bodyFrom_27 (fun r5633 u5634 H locs hr5633 hP hD hS => ?_)
  obtain ⟨jr15635, ip15636, gtrc5637⟩ := u5634
  try dsimp only at hr5633
  have hP : va_P G.1 vwCl [(h0, .inr (12, [.ref nw, .ref nk, .int mhasKept, .ref nt, .int mtaped, .ref nr, .int mrowMany, .int mroundOf, .int mroundFrom, .int mouts, .ref nm, .int mfromHour, .int mtoHour, .ref ns, .int mfrom, .int mto, .int msort, .int misFault, .int mdeep, .int mcoded, .int mlines, .ref nl, .ref nc, .ref nF, .ref np, .ref ntr, .ref nb, .int mbestCost, .ref nso, .ref nsi, .ref nit, .ref nsh, .ref nsf, .ref nss, .ref nrc, .int (nI jr15635), .int (nI jd), .int mnumber, .int mwhose, .int msize, .int ip15636])), (nrc, .inl (G.2.1, 30, .inl gtrc5637))] H := hP
  have hD : va_D A [(h0, .inr (12, [.ref nw, .ref nk, .int mhasKept, .ref nt, .int mtaped, .ref nr, .int mrowMany, .int mroundOf, .int mroundFrom, .int mouts, .ref nm, .int mfromHour, .int mtoHour, .ref ns, .int mfrom, .int mto, .int msort, .int misFault, .int mdeep, .int mcoded, .int mlines, .ref nl, .ref nc, .ref nF, .ref np, .ref ntr, .ref nb, .int mbestCost, .ref nso, .ref nsi, .ref nit, .ref nsh, .ref nsf, .ref nss, .ref nrc, .int (nI jr15635), .int (nI jd), .int mnumber, .int mwhose, .int msize, .int ip15636])), (nrc, .inl (G.2.1, 30, .inl gtrc5637))] := hD
  obtain ⟨hr5633, w5638⟩ := hr5633
  exact RI (v := r5633) hC hP hD hS [0, 1] (jr15635, ip15636, gtrc5637) rfl rfl (by decide) (⟨trivial, by omega⟩) rfl dX12_bodyFrom_30
set_option maxHeartbeats 4000000 in
set_option maxRecDepth 100000 in
theorem m_dealt0 (l : Launch) (G : GG) (h0 : Nat) (xx : Int32) (nw : Nat) (nk : Nat) (mhasKept : Int32) (nt : Nat) (mtaped : Int32) (nr : Nat) (mrowMany : Int32) (mroundOf : Int32) (mroundFrom : Int32) (mouts : Int32) (nm : Nat) (mfromHour : Int32) (mtoHour : Int32) (ns : Nat) (mfrom : Int32) (mto : Int32) (msort : Int32) (misFault : Int32) (mdeep : Int32) (mcoded : Int32) (mlines : Int32) (nl : Nat) (nc : Nat) (nF : Nat) (np : Nat) (ntr : Nat) (nb : Nat) (mbestCost : Int32) (nso : Nat) (nsi : Nat) (nit : Nat) (nsh : Nat) (nsf : Nat) (nss : Nat) (nrc : Nat) (jr : Nat) (jd : Nat) (mnumber : Int32) (mwhose : Int32) (msize : Int32) (misParted : Int32) (fnrc : Nat → Int32) (hjr : jr ≤ 30) (hjd : jd < 7) : MI l G yX12_dealt cX12_dealt 3 (some .int) 14 0 0 [.ref h0, .int 0, .int xx] [(h0, .inr (12, [.ref nw, .ref nk, .int mhasKept, .ref nt, .int mtaped, .ref nr, .int mrowMany, .int mroundOf, .int mroundFrom, .int mouts, .ref nm, .int mfromHour, .int mtoHour, .ref ns, .int mfrom, .int mto, .int msort, .int misFault, .int mdeep, .int mcoded, .int mlines, .ref nl, .ref nc, .ref nF, .ref np, .ref ntr, .ref nb, .int mbestCost, .ref nso, .ref nsi, .ref nit, .ref nsh, .ref nsf, .ref nss, .ref nrc, .int (nI jr), .int (nI jd), .int mnumber, .int mwhose, .int msize, .int misParted])), (nrc, .inl (G.2.1, 30, .inl fnrc))] (fun (r : Int32) (u : Nat × Int32 × (Nat → Int32)) => (True) ∧ (u.1 ≤ 30)) (fun u : Nat × Int32 × (Nat → Int32) => [(h0, .inr (12, [.ref nw, .ref nk, .int mhasKept, .ref nt, .int mtaped, .ref nr, .int mrowMany, .int mroundOf, .int mroundFrom, .int mouts, .ref nm, .int mfromHour, .int mtoHour, .ref ns, .int mfrom, .int mto, .int msort, .int misFault, .int mdeep, .int mcoded, .int mlines, .ref nl, .ref nc, .ref nF, .ref np, .ref ntr, .ref nb, .int mbestCost, .ref nso, .ref nsi, .ref nit, .ref nsh, .ref nsf, .ref nss, .ref nrc, .int (nI u.1), .int (nI jd), .int mnumber, .int mwhose, .int msize, .int u.2.1])), (nrc, .inl (G.2.1, 30, .inl u.2.2))]) := by
  refine MI.start (by decide +kernel) (Nat.le_of_ble_eq_true rfl) ?_
  intro p e s m below meth c A ls hC hK hP hD hS hA hl
  have hl : lv_has ls 3 [(0, .ref h0), (1, .int 0), (2, .int xx)] := hl
  obtain ⟨hx, hb, hr, hml, hB, hown, hlocks, hnm⟩ := id hC
  refine lv_aload_n hx hb dX12_dealt_0 rfl (lv_at hl 0 rfl) ?_
  refine lv_aload_n hx hb dX12_dealt_1 rfl (lv_at hl 0 rfl) ?_
  refine gf_X12_354 hC rfl hK hP 0 rfl rfl dX12_dealt_2 ?_
  refine lv_iload_n hx hb dX12_dealt_5 rfl (lv_at hl 1 rfl) ?_
  refine lv_iload_n hx hb dX12_dealt_6 rfl (lv_at hl 2 rfl) ?_
  rcases (show jd = 0 ∨ jd = 1 ∨ jd = 2 ∨ jd = 3 ∨ jd = 4 ∨ jd = 5 ∨ jd = 6 by omega) with rfl | rfl | rfl | rfl | rfl | rfl | rfl
  · refine iV (wr := []) hC hK hl hP hD hS hA (m_from00 l G h0 xx nw nk mhasKept nt mtaped nr mrowMany mroundOf mroundFrom mouts nm mfromHour mtoHour ns mfrom mto msort misFault mdeep mcoded mlines nl nc nF np ntr nb mbestCost nso nsi nit nsh nsf nss nrc jr 0 mnumber mwhose msize misParted fnrc (by omega) (by omega)) si_X12_357 [0, 1] [] rfl rfl (by decide) rfl (by decide) (by decide) rfl rfl rfl rfl rfl (Nat.le_of_ble_eq_true rfl) ⟨Nat.le_of_ble_eq_true rfl, Nat.le_of_ble_eq_true rfl⟩ ⟨Nat.le_of_ble_eq_true rfl, Nat.le_of_ble_eq_true rfl⟩ dX12_dealt_7 (fun r5639 u5640 H locs hr5639 hP hD hS => ?_)
    obtain ⟨jr15641, ip15642, gtrc5643⟩ := u5640
    try dsimp only at hr5639
    have hP : va_P G.1 vwCl [(h0, .inr (12, [.ref nw, .ref nk, .int mhasKept, .ref nt, .int mtaped, .ref nr, .int mrowMany, .int mroundOf, .int mroundFrom, .int mouts, .ref nm, .int mfromHour, .int mtoHour, .ref ns, .int mfrom, .int mto, .int msort, .int misFault, .int mdeep, .int mcoded, .int mlines, .ref nl, .ref nc, .ref nF, .ref np, .ref ntr, .ref nb, .int mbestCost, .ref nso, .ref nsi, .ref nit, .ref nsh, .ref nsf, .ref nss, .ref nrc, .int (nI jr15641), .int 0, .int mnumber, .int mwhose, .int msize, .int ip15642])), (nrc, .inl (G.2.1, 30, .inl gtrc5643))] H := hP
    have hD : va_D A [(h0, .inr (12, [.ref nw, .ref nk, .int mhasKept, .ref nt, .int mtaped, .ref nr, .int mrowMany, .int mroundOf, .int mroundFrom, .int mouts, .ref nm, .int mfromHour, .int mtoHour, .ref ns, .int mfrom, .int mto, .int msort, .int misFault, .int mdeep, .int mcoded, .int mlines, .ref nl, .ref nc, .ref nF, .ref np, .ref ntr, .ref nb, .int mbestCost, .ref nso, .ref nsi, .ref nit, .ref nsh, .ref nsf, .ref nss, .ref nrc, .int (nI jr15641), .int 0, .int mnumber, .int mwhose, .int msize, .int ip15642])), (nrc, .inl (G.2.1, 30, .inl gtrc5643))] := hD
    obtain ⟨hr5639, w5644⟩ := hr5639
    exact RI (v := r5639) hC hP hD hS [0, 1] (jr15641, ip15642, gtrc5643) rfl rfl (by decide) (⟨trivial, by omega⟩) rfl dX12_dealt_10
  · refine iV (wr := []) hC hK hl hP hD hS hA (m_from10 l G h0 xx nw nk mhasKept nt mtaped nr mrowMany mroundOf mroundFrom mouts nm mfromHour mtoHour ns mfrom mto msort misFault mdeep mcoded mlines nl nc nF np ntr nb mbestCost nso nsi nit nsh nsf nss nrc jr 1 mnumber mwhose msize misParted fnrc (by omega) (by omega)) si_X12_357 [0, 1] [] rfl rfl (by decide) rfl (by decide) (by decide) rfl rfl rfl rfl rfl (Nat.le_of_ble_eq_true rfl) ⟨Nat.le_of_ble_eq_true rfl, Nat.le_of_ble_eq_true rfl⟩ ⟨Nat.le_of_ble_eq_true rfl, Nat.le_of_ble_eq_true rfl⟩ dX12_dealt_7 (fun r5645 u5646 H locs hr5645 hP hD hS => ?_)
    obtain ⟨jr15647, ip15648, gtrc5649⟩ := u5646
    try dsimp only at hr5645
    have hP : va_P G.1 vwCl [(h0, .inr (12, [.ref nw, .ref nk, .int mhasKept, .ref nt, .int mtaped, .ref nr, .int mrowMany, .int mroundOf, .int mroundFrom, .int mouts, .ref nm, .int mfromHour, .int mtoHour, .ref ns, .int mfrom, .int mto, .int msort, .int misFault, .int mdeep, .int mcoded, .int mlines, .ref nl, .ref nc, .ref nF, .ref np, .ref ntr, .ref nb, .int mbestCost, .ref nso, .ref nsi, .ref nit, .ref nsh, .ref nsf, .ref nss, .ref nrc, .int (nI jr15647), .int 1, .int mnumber, .int mwhose, .int msize, .int ip15648])), (nrc, .inl (G.2.1, 30, .inl gtrc5649))] H := hP
    have hD : va_D A [(h0, .inr (12, [.ref nw, .ref nk, .int mhasKept, .ref nt, .int mtaped, .ref nr, .int mrowMany, .int mroundOf, .int mroundFrom, .int mouts, .ref nm, .int mfromHour, .int mtoHour, .ref ns, .int mfrom, .int mto, .int msort, .int misFault, .int mdeep, .int mcoded, .int mlines, .ref nl, .ref nc, .ref nF, .ref np, .ref ntr, .ref nb, .int mbestCost, .ref nso, .ref nsi, .ref nit, .ref nsh, .ref nsf, .ref nss, .ref nrc, .int (nI jr15647), .int 1, .int mnumber, .int mwhose, .int msize, .int ip15648])), (nrc, .inl (G.2.1, 30, .inl gtrc5649))] := hD
    obtain ⟨hr5645, w5650⟩ := hr5645
    exact RI (v := r5645) hC hP hD hS [0, 1] (jr15647, ip15648, gtrc5649) rfl rfl (by decide) (⟨trivial, by omega⟩) rfl dX12_dealt_10
  · refine iV (wr := []) hC hK hl hP hD hS hA (m_from20 l G h0 xx nw nk mhasKept nt mtaped nr mrowMany mroundOf mroundFrom mouts nm mfromHour mtoHour ns mfrom mto msort misFault mdeep mcoded mlines nl nc nF np ntr nb mbestCost nso nsi nit nsh nsf nss nrc jr 2 mnumber mwhose msize misParted fnrc (by omega) (by omega)) si_X12_357 [0, 1] [] rfl rfl (by decide) rfl (by decide) (by decide) rfl rfl rfl rfl rfl (Nat.le_of_ble_eq_true rfl) ⟨Nat.le_of_ble_eq_true rfl, Nat.le_of_ble_eq_true rfl⟩ ⟨Nat.le_of_ble_eq_true rfl, Nat.le_of_ble_eq_true rfl⟩ dX12_dealt_7 (fun r5651 u5652 H locs hr5651 hP hD hS => ?_)
    obtain ⟨jr15653, ip15654, gtrc5655⟩ := u5652
    try dsimp only at hr5651
    have hP : va_P G.1 vwCl [(h0, .inr (12, [.ref nw, .ref nk, .int mhasKept, .ref nt, .int mtaped, .ref nr, .int mrowMany, .int mroundOf, .int mroundFrom, .int mouts, .ref nm, .int mfromHour, .int mtoHour, .ref ns, .int mfrom, .int mto, .int msort, .int misFault, .int mdeep, .int mcoded, .int mlines, .ref nl, .ref nc, .ref nF, .ref np, .ref ntr, .ref nb, .int mbestCost, .ref nso, .ref nsi, .ref nit, .ref nsh, .ref nsf, .ref nss, .ref nrc, .int (nI jr15653), .int 2, .int mnumber, .int mwhose, .int msize, .int ip15654])), (nrc, .inl (G.2.1, 30, .inl gtrc5655))] H := hP
    have hD : va_D A [(h0, .inr (12, [.ref nw, .ref nk, .int mhasKept, .ref nt, .int mtaped, .ref nr, .int mrowMany, .int mroundOf, .int mroundFrom, .int mouts, .ref nm, .int mfromHour, .int mtoHour, .ref ns, .int mfrom, .int mto, .int msort, .int misFault, .int mdeep, .int mcoded, .int mlines, .ref nl, .ref nc, .ref nF, .ref np, .ref ntr, .ref nb, .int mbestCost, .ref nso, .ref nsi, .ref nit, .ref nsh, .ref nsf, .ref nss, .ref nrc, .int (nI jr15653), .int 2, .int mnumber, .int mwhose, .int msize, .int ip15654])), (nrc, .inl (G.2.1, 30, .inl gtrc5655))] := hD
    obtain ⟨hr5651, w5656⟩ := hr5651
    exact RI (v := r5651) hC hP hD hS [0, 1] (jr15653, ip15654, gtrc5655) rfl rfl (by decide) (⟨trivial, by omega⟩) rfl dX12_dealt_10
  · refine iV (wr := []) hC hK hl hP hD hS hA (m_from30 l G h0 xx nw nk mhasKept nt mtaped nr mrowMany mroundOf mroundFrom mouts nm mfromHour mtoHour ns mfrom mto msort misFault mdeep mcoded mlines nl nc nF np ntr nb mbestCost nso nsi nit nsh nsf nss nrc jr 3 mnumber mwhose msize misParted fnrc (by omega) (by omega)) si_X12_357 [0, 1] [] rfl rfl (by decide) rfl (by decide) (by decide) rfl rfl rfl rfl rfl (Nat.le_of_ble_eq_true rfl) ⟨Nat.le_of_ble_eq_true rfl, Nat.le_of_ble_eq_true rfl⟩ ⟨Nat.le_of_ble_eq_true rfl, Nat.le_of_ble_eq_true rfl⟩ dX12_dealt_7 (fun r5657 u5658 H locs hr5657 hP hD hS => ?_)
    obtain ⟨jr15659, ip15660, gtrc5661⟩ := u5658
    try dsimp only at hr5657
    have hP : va_P G.1 vwCl [(h0, .inr (12, [.ref nw, .ref nk, .int mhasKept, .ref nt, .int mtaped, .ref nr, .int mrowMany, .int mroundOf, .int mroundFrom, .int mouts, .ref nm, .int mfromHour, .int mtoHour, .ref ns, .int mfrom, .int mto, .int msort, .int misFault, .int mdeep, .int mcoded, .int mlines, .ref nl, .ref nc, .ref nF, .ref np, .ref ntr, .ref nb, .int mbestCost, .ref nso, .ref nsi, .ref nit, .ref nsh, .ref nsf, .ref nss, .ref nrc, .int (nI jr15659), .int 3, .int mnumber, .int mwhose, .int msize, .int ip15660])), (nrc, .inl (G.2.1, 30, .inl gtrc5661))] H := hP
    have hD : va_D A [(h0, .inr (12, [.ref nw, .ref nk, .int mhasKept, .ref nt, .int mtaped, .ref nr, .int mrowMany, .int mroundOf, .int mroundFrom, .int mouts, .ref nm, .int mfromHour, .int mtoHour, .ref ns, .int mfrom, .int mto, .int msort, .int misFault, .int mdeep, .int mcoded, .int mlines, .ref nl, .ref nc, .ref nF, .ref np, .ref ntr, .ref nb, .int mbestCost, .ref nso, .ref nsi, .ref nit, .ref nsh, .ref nsf, .ref nss, .ref nrc, .int (nI jr15659), .int 3, .int mnumber, .int mwhose, .int msize, .int ip15660])), (nrc, .inl (G.2.1, 30, .inl gtrc5661))] := hD
    obtain ⟨hr5657, w5662⟩ := hr5657
    exact RI (v := r5657) hC hP hD hS [0, 1] (jr15659, ip15660, gtrc5661) rfl rfl (by decide) (⟨trivial, by omega⟩) rfl dX12_dealt_10
  · refine iV (wr := []) hC hK hl hP hD hS hA (m_from40 l G h0 xx nw nk mhasKept nt mtaped nr mrowMany mroundOf mroundFrom mouts nm mfromHour mtoHour ns mfrom mto msort misFault mdeep mcoded mlines nl nc nF np ntr nb mbestCost nso nsi nit nsh nsf nss nrc jr 4 mnumber mwhose msize misParted fnrc (by omega) (by omega)) si_X12_357 [0, 1] [] rfl rfl (by decide) rfl (by decide) (by decide) rfl rfl rfl rfl rfl (Nat.le_of_ble_eq_true rfl) ⟨Nat.le_of_ble_eq_true rfl, Nat.le_of_ble_eq_true rfl⟩ ⟨Nat.le_of_ble_eq_true rfl, Nat.le_of_ble_eq_true rfl⟩ dX12_dealt_7 (fun r5663 u5664 H locs hr5663 hP hD hS => ?_)
    obtain ⟨jr15665, ip15666, gtrc5667⟩ := u5664
    try dsimp only at hr5663
    have hP : va_P G.1 vwCl [(h0, .inr (12, [.ref nw, .ref nk, .int mhasKept, .ref nt, .int mtaped, .ref nr, .int mrowMany, .int mroundOf, .int mroundFrom, .int mouts, .ref nm, .int mfromHour, .int mtoHour, .ref ns, .int mfrom, .int mto, .int msort, .int misFault, .int mdeep, .int mcoded, .int mlines, .ref nl, .ref nc, .ref nF, .ref np, .ref ntr, .ref nb, .int mbestCost, .ref nso, .ref nsi, .ref nit, .ref nsh, .ref nsf, .ref nss, .ref nrc, .int (nI jr15665), .int 4, .int mnumber, .int mwhose, .int msize, .int ip15666])), (nrc, .inl (G.2.1, 30, .inl gtrc5667))] H := hP
    have hD : va_D A [(h0, .inr (12, [.ref nw, .ref nk, .int mhasKept, .ref nt, .int mtaped, .ref nr, .int mrowMany, .int mroundOf, .int mroundFrom, .int mouts, .ref nm, .int mfromHour, .int mtoHour, .ref ns, .int mfrom, .int mto, .int msort, .int misFault, .int mdeep, .int mcoded, .int mlines, .ref nl, .ref nc, .ref nF, .ref np, .ref ntr, .ref nb, .int mbestCost, .ref nso, .ref nsi, .ref nit, .ref nsh, .ref nsf, .ref nss, .ref nrc, .int (nI jr15665), .int 4, .int mnumber, .int mwhose, .int msize, .int ip15666])), (nrc, .inl (G.2.1, 30, .inl gtrc5667))] := hD
    obtain ⟨hr5663, w5668⟩ := hr5663
    exact RI (v := r5663) hC hP hD hS [0, 1] (jr15665, ip15666, gtrc5667) rfl rfl (by decide) (⟨trivial, by omega⟩) rfl dX12_dealt_10
  · refine iV (wr := []) hC hK hl hP hD hS hA (m_from50 l G h0 xx nw nk mhasKept nt mtaped nr mrowMany mroundOf mroundFrom mouts nm mfromHour mtoHour ns mfrom mto msort misFault mdeep mcoded mlines nl nc nF np ntr nb mbestCost nso nsi nit nsh nsf nss nrc jr 5 mnumber mwhose msize misParted fnrc (by omega) (by omega)) si_X12_357 [0, 1] [] rfl rfl (by decide) rfl (by decide) (by decide) rfl rfl rfl rfl rfl (Nat.le_of_ble_eq_true rfl) ⟨Nat.le_of_ble_eq_true rfl, Nat.le_of_ble_eq_true rfl⟩ ⟨Nat.le_of_ble_eq_true rfl, Nat.le_of_ble_eq_true rfl⟩ dX12_dealt_7 (fun r5669 u5670 H locs hr5669 hP hD hS => ?_)
    obtain ⟨jr15671, ip15672, gtrc5673⟩ := u5670
    try dsimp only at hr5669
    have hP : va_P G.1 vwCl [(h0, .inr (12, [.ref nw, .ref nk, .int mhasKept, .ref nt, .int mtaped, .ref nr, .int mrowMany, .int mroundOf, .int mroundFrom, .int mouts, .ref nm, .int mfromHour, .int mtoHour, .ref ns, .int mfrom, .int mto, .int msort, .int misFault, .int mdeep, .int mcoded, .int mlines, .ref nl, .ref nc, .ref nF, .ref np, .ref ntr, .ref nb, .int mbestCost, .ref nso, .ref nsi, .ref nit, .ref nsh, .ref nsf, .ref nss, .ref nrc, .int (nI jr15671), .int 5, .int mnumber, .int mwhose, .int msize, .int ip15672])), (nrc, .inl (G.2.1, 30, .inl gtrc5673))] H := hP
    have hD : va_D A [(h0, .inr (12, [.ref nw, .ref nk, .int mhasKept, .ref nt, .int mtaped, .ref nr, .int mrowMany, .int mroundOf, .int mroundFrom, .int mouts, .ref nm, .int mfromHour, .int mtoHour, .ref ns, .int mfrom, .int mto, .int msort, .int misFault, .int mdeep, .int mcoded, .int mlines, .ref nl, .ref nc, .ref nF, .ref np, .ref ntr, .ref nb, .int mbestCost, .ref nso, .ref nsi, .ref nit, .ref nsh, .ref nsf, .ref nss, .ref nrc, .int (nI jr15671), .int 5, .int mnumber, .int mwhose, .int msize, .int ip15672])), (nrc, .inl (G.2.1, 30, .inl gtrc5673))] := hD
    obtain ⟨hr5669, w5674⟩ := hr5669
    exact RI (v := r5669) hC hP hD hS [0, 1] (jr15671, ip15672, gtrc5673) rfl rfl (by decide) (⟨trivial, by omega⟩) rfl dX12_dealt_10
  · refine iV (wr := []) hC hK hl hP hD hS hA (m_from60 l G h0 xx nw nk mhasKept nt mtaped nr mrowMany mroundOf mroundFrom mouts nm mfromHour mtoHour ns mfrom mto msort misFault mdeep mcoded mlines nl nc nF np ntr nb mbestCost nso nsi nit nsh nsf nss nrc jr 6 mnumber mwhose msize misParted fnrc (by omega) (by omega)) si_X12_357 [0, 1] [] rfl rfl (by decide) rfl (by decide) (by decide) rfl rfl rfl rfl rfl (Nat.le_of_ble_eq_true rfl) ⟨Nat.le_of_ble_eq_true rfl, Nat.le_of_ble_eq_true rfl⟩ ⟨Nat.le_of_ble_eq_true rfl, Nat.le_of_ble_eq_true rfl⟩ dX12_dealt_7 (fun r5675 u5676 H locs hr5675 hP hD hS => ?_)
    obtain ⟨jr15677, ip15678, gtrc5679⟩ := u5676
    try dsimp only at hr5675
    have hP : va_P G.1 vwCl [(h0, .inr (12, [.ref nw, .ref nk, .int mhasKept, .ref nt, .int mtaped, .ref nr, .int mrowMany, .int mroundOf, .int mroundFrom, .int mouts, .ref nm, .int mfromHour, .int mtoHour, .ref ns, .int mfrom, .int mto, .int msort, .int misFault, .int mdeep, .int mcoded, .int mlines, .ref nl, .ref nc, .ref nF, .ref np, .ref ntr, .ref nb, .int mbestCost, .ref nso, .ref nsi, .ref nit, .ref nsh, .ref nsf, .ref nss, .ref nrc, .int (nI jr15677), .int 6, .int mnumber, .int mwhose, .int msize, .int ip15678])), (nrc, .inl (G.2.1, 30, .inl gtrc5679))] H := hP
    have hD : va_D A [(h0, .inr (12, [.ref nw, .ref nk, .int mhasKept, .ref nt, .int mtaped, .ref nr, .int mrowMany, .int mroundOf, .int mroundFrom, .int mouts, .ref nm, .int mfromHour, .int mtoHour, .ref ns, .int mfrom, .int mto, .int msort, .int misFault, .int mdeep, .int mcoded, .int mlines, .ref nl, .ref nc, .ref nF, .ref np, .ref ntr, .ref nb, .int mbestCost, .ref nso, .ref nsi, .ref nit, .ref nsh, .ref nsf, .ref nss, .ref nrc, .int (nI jr15677), .int 6, .int mnumber, .int mwhose, .int msize, .int ip15678])), (nrc, .inl (G.2.1, 30, .inl gtrc5679))] := hD
    obtain ⟨hr5675, w5680⟩ := hr5675
    exact RI (v := r5675) hC hP hD hS [0, 1] (jr15677, ip15678, gtrc5679) rfl rfl (by decide) (⟨trivial, by omega⟩) rfl dX12_dealt_10
set_option maxHeartbeats 4000000 in
set_option maxRecDepth 100000 in
theorem m_body01 (l : Launch) (G : GG) (h0 : Nat) (xx : Int32) (nw : Nat) (nk : Nat) (mhasKept : Int32) (nt : Nat) (mtaped : Int32) (nr : Nat) (mrowMany : Int32) (mroundOf : Int32) (mroundFrom : Int32) (mouts : Int32) (nm : Nat) (mfromHour : Int32) (mtoHour : Int32) (ns : Nat) (mfrom : Int32) (mto : Int32) (msort : Int32) (misFault : Int32) (mdeep : Int32) (mcoded : Int32) (mlines : Int32) (nl : Nat) (nc : Nat) (nF : Nat) (np : Nat) (ntr : Nat) (nb : Nat) (mbestCost : Int32) (nso : Nat) (nsi : Nat) (nit : Nat) (nsh : Nat) (nsf : Nat) (nss : Nat) (nrc : Nat) (jr : Nat) (jd : Nat) (mnumber : Int32) (mwhose : Int32) (msize : Int32) (misParted : Int32) (fnrc : Nat → Int32) (hjr : jr ≤ 30) (hjd : jd < 7) : MI l G yX12_body cX12_body 6 (some .int) 15 0 0 [.ref h0, .int 0, .int 1, .int xx] [(h0, .inr (12, [.ref nw, .ref nk, .int mhasKept, .ref nt, .int mtaped, .ref nr, .int mrowMany, .int mroundOf, .int mroundFrom, .int mouts, .ref nm, .int mfromHour, .int mtoHour, .ref ns, .int mfrom, .int mto, .int msort, .int misFault, .int mdeep, .int mcoded, .int mlines, .ref nl, .ref nc, .ref nF, .ref np, .ref ntr, .ref nb, .int mbestCost, .ref nso, .ref nsi, .ref nit, .ref nsh, .ref nsf, .ref nss, .ref nrc, .int (nI jr), .int (nI jd), .int mnumber, .int mwhose, .int msize, .int misParted])), (nrc, .inl (G.2.1, 30, .inl fnrc))] (fun (r : Int32) (u : Nat × Int32 × (Nat → Int32)) => (True) ∧ (u.1 ≤ 30)) (fun u : Nat × Int32 × (Nat → Int32) => [(h0, .inr (12, [.ref nw, .ref nk, .int mhasKept, .ref nt, .int mtaped, .ref nr, .int mrowMany, .int mroundOf, .int mroundFrom, .int mouts, .ref nm, .int mfromHour, .int mtoHour, .ref ns, .int mfrom, .int mto, .int msort, .int misFault, .int mdeep, .int mcoded, .int mlines, .ref nl, .ref nc, .ref nF, .ref np, .ref ntr, .ref nb, .int mbestCost, .ref nso, .ref nsi, .ref nit, .ref nsh, .ref nsf, .ref nss, .ref nrc, .int (nI u.1), .int (nI jd), .int mnumber, .int mwhose, .int msize, .int u.2.1])), (nrc, .inl (G.2.1, 30, .inl u.2.2))]) := by
  refine MI.start (by decide +kernel) (Nat.le_of_ble_eq_true rfl) ?_
  intro p e s m below meth c A ls hC hK hP hD hS hA hl
  have hl : lv_has ls 6 [(0, .ref h0), (1, .int 0), (2, .int 1), (3, .int xx)] := hl
  obtain ⟨hx, hb, hr, hml, hB, hown, hlocks, hnm⟩ := id hC
  refine lv_iconst (v := 4) hx hb dX12_body_0 (by decide) ?_
  refine lv_iload_n hx hb dX12_body_1 rfl (lv_at hl 1 rfl) ?_
  refine lv_imul hx hb dX12_body_2 ?_
  refine eqi (x1 := 0) (by decide) ?_
  refine lv_iload_n hx hb dX12_body_3 rfl (lv_at hl 2 rfl) ?_
  refine lv_iadd hx hb dX12_body_4 ?_
  refine eqi (x1 := 1) (by decide) ?_
  refine lv_tableIn (tgt := 125) hx hb dX12_body_5 (by decide) (by decide) rfl (by decide) ?_
  refine lv_aload_n hx hb dX12_body_125 rfl (lv_at hl 0 rfl) ?_
  refine lv_bipush (v := 11) hx hb dX12_body_126 (by decide) ?_
  refine vV (wr := []) hC hK hl hP hD hS hA (m_began l G h0 11 nw nk mhasKept nt mtaped nr mrowMany mroundOf mroundFrom mouts nm mfromHour mtoHour ns mfrom mto msort misFault mdeep mcoded mlines nl nc nF np ntr nb mbestCost nso nsi nit nsh nsf nss nrc jr (nI jd) mnumber mwhose msize misParted fnrc (by omega)) si_X12_366 [0, 1] [] rfl rfl (by decide) rfl (by decide) (by decide) rfl rfl rfl rfl rfl (Nat.le_of_ble_eq_true rfl) ⟨Nat.le_of_ble_eq_true rfl, Nat.le_of_ble_eq_true rfl⟩ ⟨Nat.le_of_ble_eq_true rfl, Nat.le_of_ble_eq_true rfl⟩ dX12_body_128 (fun u5682 H locs hr5681 hP hD hS => ?_)
  obtain ⟨jr15683, gtrc5684⟩ := u5682
  try dsimp only at hr5681
  have hP : va_P G.1 vwCl [(h0, .inr (12, [.ref nw, .ref nk, .int mhasKept, .ref nt, .int mtaped, .ref nr, .int mrowMany, .int mroundOf, .int mroundFrom, .int mouts, .ref nm, .int mfromHour, .int mtoHour, .ref ns, .int mfrom, .int mto, .int msort, .int misFault, .int mdeep, .int mcoded, .int mlines, .ref nl, .ref nc, .ref nF, .ref np, .ref ntr, .ref nb, .int mbestCost, .ref nso, .ref nsi, .ref nit, .ref nsh, .ref nsf, .ref nss, .ref nrc, .int (nI jr15683), .int (nI jd), .int mnumber, .int mwhose, .int msize, .int misParted])), (nrc, .inl (G.2.1, 30, .inl gtrc5684))] H := hP
  have hD : va_D A [(h0, .inr (12, [.ref nw, .ref nk, .int mhasKept, .ref nt, .int mtaped, .ref nr, .int mrowMany, .int mroundOf, .int mroundFrom, .int mouts, .ref nm, .int mfromHour, .int mtoHour, .ref ns, .int mfrom, .int mto, .int msort, .int misFault, .int mdeep, .int mcoded, .int mlines, .ref nl, .ref nc, .ref nF, .ref np, .ref ntr, .ref nb, .int mbestCost, .ref nso, .ref nsi, .ref nit, .ref nsh, .ref nsf, .ref nss, .ref nrc, .int (nI jr15683), .int (nI jd), .int mnumber, .int mwhose, .int msize, .int misParted])), (nrc, .inl (G.2.1, 30, .inl gtrc5684))] := hD
  have w5685 := hr5681
  refine lv_aload_n hx hb dX12_body_131 rfl (lv_at hl 0 rfl) ?_
  refine lv_iconst (v := 0) hx hb dX12_body_132 (by decide) ?_
  refine lv_iload_n hx hb dX12_body_133 rfl (lv_at hl 3 rfl) ?_
  refine iV (wr := []) hC hK hl hP hD hS hA (m_dealt0 l G h0 xx nw nk mhasKept nt mtaped nr mrowMany mroundOf mroundFrom mouts nm mfromHour mtoHour ns mfrom mto msort misFault mdeep mcoded mlines nl nc nF np ntr nb mbestCost nso nsi nit nsh nsf nss nrc jr15683 jd mnumber mwhose msize misParted gtrc5684 (by omega) (by omega)) si_X12_372 [0, 1] [] rfl rfl (by decide) rfl (by decide) (by decide) rfl rfl rfl rfl rfl (Nat.le_of_ble_eq_true rfl) ⟨Nat.le_of_ble_eq_true rfl, Nat.le_of_ble_eq_true rfl⟩ ⟨Nat.le_of_ble_eq_true rfl, Nat.le_of_ble_eq_true rfl⟩ dX12_body_134 (fun r5686 u5687 H locs hr5686 hP hD hS => ?_)
  obtain ⟨jr15688, ip15689, gtrc5690⟩ := u5687
  try dsimp only at hr5686
  have hP : va_P G.1 vwCl [(h0, .inr (12, [.ref nw, .ref nk, .int mhasKept, .ref nt, .int mtaped, .ref nr, .int mrowMany, .int mroundOf, .int mroundFrom, .int mouts, .ref nm, .int mfromHour, .int mtoHour, .ref ns, .int mfrom, .int mto, .int msort, .int misFault, .int mdeep, .int mcoded, .int mlines, .ref nl, .ref nc, .ref nF, .ref np, .ref ntr, .ref nb, .int mbestCost, .ref nso, .ref nsi, .ref nit, .ref nsh, .ref nsf, .ref nss, .ref nrc, .int (nI jr15688), .int (nI jd), .int mnumber, .int mwhose, .int msize, .int ip15689])), (nrc, .inl (G.2.1, 30, .inl gtrc5690))] H := hP
  have hD : va_D A [(h0, .inr (12, [.ref nw, .ref nk, .int mhasKept, .ref nt, .int mtaped, .ref nr, .int mrowMany, .int mroundOf, .int mroundFrom, .int mouts, .ref nm, .int mfromHour, .int mtoHour, .ref ns, .int mfrom, .int mto, .int msort, .int misFault, .int mdeep, .int mcoded, .int mlines, .ref nl, .ref nc, .ref nF, .ref np, .ref ntr, .ref nb, .int mbestCost, .ref nso, .ref nsi, .ref nit, .ref nsh, .ref nsf, .ref nss, .ref nrc, .int (nI jr15688), .int (nI jd), .int mnumber, .int mwhose, .int msize, .int ip15689])), (nrc, .inl (G.2.1, 30, .inl gtrc5690))] := hD
  obtain ⟨hr5686, w5691⟩ := hr5686
  refine lv_iconst (v := 2) hx hb dX12_body_137 (by decide) ?_
  refine lv_imul hx hb dX12_body_138 ?_
  exact RI (v := r5686 * 2) hC hP hD hS [0, 1] (jr15688, ip15689, gtrc5690) rfl rfl (by decide) (⟨trivial, by omega⟩) rfl dX12_body_139
set_option maxHeartbeats 4000000 in
set_option maxRecDepth 100000 in
theorem m_from01 (l : Launch) (G : GG) (h0 : Nat) (xx : Int32) (nw : Nat) (nk : Nat) (mhasKept : Int32) (nt : Nat) (mtaped : Int32) (nr : Nat) (mrowMany : Int32) (mroundOf : Int32) (mroundFrom : Int32) (mouts : Int32) (nm : Nat) (mfromHour : Int32) (mtoHour : Int32) (ns : Nat) (mfrom : Int32) (mto : Int32) (msort : Int32) (misFault : Int32) (mdeep : Int32) (mcoded : Int32) (mlines : Int32) (nl : Nat) (nc : Nat) (nF : Nat) (np : Nat) (ntr : Nat) (nb : Nat) (mbestCost : Int32) (nso : Nat) (nsi : Nat) (nit : Nat) (nsh : Nat) (nsf : Nat) (nss : Nat) (nrc : Nat) (jr : Nat) (jd : Nat) (mnumber : Int32) (mwhose : Int32) (msize : Int32) (misParted : Int32) (fnrc : Nat → Int32) (hjr : jr ≤ 30) (hjd : jd < 7) : MI l G yX12_bodyFrom cX12_bodyFrom 5 (some .int) 16 0 0 [.ref h0, .int 0, .int 1, .int xx] [(h0, .inr (12, [.ref nw, .ref nk, .int mhasKept, .ref nt, .int mtaped, .ref nr, .int mrowMany, .int mroundOf, .int mroundFrom, .int mouts, .ref nm, .int mfromHour, .int mtoHour, .ref ns, .int mfrom, .int mto, .int msort, .int misFault, .int mdeep, .int mcoded, .int mlines, .ref nl, .ref nc, .ref nF, .ref np, .ref ntr, .ref nb, .int mbestCost, .ref nso, .ref nsi, .ref nit, .ref nsh, .ref nsf, .ref nss, .ref nrc, .int (nI jr), .int (nI jd), .int mnumber, .int mwhose, .int msize, .int misParted])), (nrc, .inl (G.2.1, 30, .inl fnrc))] (fun (r : Int32) (u : Nat × Int32 × (Nat → Int32)) => (True) ∧ (u.1 ≤ 30)) (fun u : Nat × Int32 × (Nat → Int32) => [(h0, .inr (12, [.ref nw, .ref nk, .int mhasKept, .ref nt, .int mtaped, .ref nr, .int mrowMany, .int mroundOf, .int mroundFrom, .int mouts, .ref nm, .int mfromHour, .int mtoHour, .ref ns, .int mfrom, .int mto, .int msort, .int misFault, .int mdeep, .int mcoded, .int mlines, .ref nl, .ref nc, .ref nF, .ref np, .ref ntr, .ref nb, .int mbestCost, .ref nso, .ref nsi, .ref nit, .ref nsh, .ref nsf, .ref nss, .ref nrc, .int (nI u.1), .int (nI jd), .int mnumber, .int mwhose, .int msize, .int u.2.1])), (nrc, .inl (G.2.1, 30, .inl u.2.2))]) := by
  refine MI.start (by decide +kernel) (Nat.le_of_ble_eq_true rfl) ?_
  intro p e s m below meth c A ls hC hK hP hD hS hA hl
  have hl : lv_has ls 5 [(0, .ref h0), (1, .int 0), (2, .int 1), (3, .int xx)] := hl
  obtain ⟨hx, hb, hr, hml, hB, hown, hlocks, hnm⟩ := id hC
  refine lv_iload_n hx hb dX12_bodyFrom_0 rfl (lv_at hl 1 rfl) ?_
  refine lv_istore (lv' := [(4, .int 0), (0, .ref h0), (1, .int 0), (2, .int 1), (3, .int xx)]) hx hb dX12_bodyFrom_1 hl (by decide) rfl (fun ls hl => ?_)
  refine lv_iload hx hb dX12_bodyFrom_3 (lv_at hl 0 rfl) ?_
  refine lv_iload_n hx hb dX12_bodyFrom_5 rfl (lv_at hl 3 rfl) ?_
  refine pS hC hK hl (m_hasOwn01 l G) si_X12_360 rfl rfl (Nat.le_of_ble_eq_true rfl) ⟨Nat.le_of_ble_eq_true rfl, Nat.le_of_ble_eq_true rfl⟩ ⟨by first | exact Nat.le_of_ble_eq_true rfl | exact Nat.zero_le _, by first | exact Nat.le_of_ble_eq_true rfl | exact Nat.zero_le _⟩ dX12_bodyFrom_6 (fun r5692 hr5692 => ?_)
  obtain rfl := hr5692
  refine lv_if_ne (tgt := 22) hx hb dX12_bodyFrom_9 (by decide) (fun _ => ?_) (fun c9 => absurd c9 (by decide))
  refine lv_aload_n hx hb dX12_bodyFrom_22 rfl (lv_at hl 1 rfl) ?_
  refine lv_iload hx hb dX12_bodyFrom_23 (lv_at hl 0 rfl) ?_
  refine lv_iload_n hx hb dX12_bodyFrom_25 rfl (lv_at hl 3 rfl) ?_
  refine lv_iload_n hx hb dX12_bodyFrom_26 rfl (lv_at hl 4 rfl) ?_
  refine iV (wr := []) hC hK hl hP hD hS hA (m_body01 l G h0 xx nw nk mhasKept nt mtaped nr mrowMany mroundOf mroundFrom mouts nm mfromHour mtoHour ns mfrom mto msort misFault mdeep mcoded mlines nl nc nF np ntr nb mbestCost nso nsi nit nsh nsf nss nrc jr jd mnumber mwhose msize misParted fnrc (by omega) (by omega)) si_X12_363 [0, 1] [] rfl rfl (by decide) rfl (by decide) (by decide) rfl rfl rfl rfl rfl (Nat.le_of_ble_eq_true rfl) ⟨Nat.le_of_ble_eq_true rfl, Nat.le_of_ble_eq_true rfl⟩ ⟨Nat.le_of_ble_eq_true rfl, Nat.le_of_ble_eq_true rfl⟩ dX12_bodyFrom_27 (fun r5694 u5695 H locs hr5694 hP hD hS => ?_)
  obtain ⟨jr15696, ip15697, gtrc5698⟩ := u5695
  try dsimp only at hr5694
  have hP : va_P G.1 vwCl [(h0, .inr (12, [.ref nw, .ref nk, .int mhasKept, .ref nt, .int mtaped, .ref nr, .int mrowMany, .int mroundOf, .int mroundFrom, .int mouts, .ref nm, .int mfromHour, .int mtoHour, .ref ns, .int mfrom, .int mto, .int msort, .int misFault, .int mdeep, .int mcoded, .int mlines, .ref nl, .ref nc, .ref nF, .ref np, .ref ntr, .ref nb, .int mbestCost, .ref nso, .ref nsi, .ref nit, .ref nsh, .ref nsf, .ref nss, .ref nrc, .int (nI jr15696), .int (nI jd), .int mnumber, .int mwhose, .int msize, .int ip15697])), (nrc, .inl (G.2.1, 30, .inl gtrc5698))] H := hP
  have hD : va_D A [(h0, .inr (12, [.ref nw, .ref nk, .int mhasKept, .ref nt, .int mtaped, .ref nr, .int mrowMany, .int mroundOf, .int mroundFrom, .int mouts, .ref nm, .int mfromHour, .int mtoHour, .ref ns, .int mfrom, .int mto, .int msort, .int misFault, .int mdeep, .int mcoded, .int mlines, .ref nl, .ref nc, .ref nF, .ref np, .ref ntr, .ref nb, .int mbestCost, .ref nso, .ref nsi, .ref nit, .ref nsh, .ref nsf, .ref nss, .ref nrc, .int (nI jr15696), .int (nI jd), .int mnumber, .int mwhose, .int msize, .int ip15697])), (nrc, .inl (G.2.1, 30, .inl gtrc5698))] := hD
  obtain ⟨hr5694, w5699⟩ := hr5694
  exact RI (v := r5694) hC hP hD hS [0, 1] (jr15696, ip15697, gtrc5698) rfl rfl (by decide) (⟨trivial, by omega⟩) rfl dX12_bodyFrom_30
set_option maxHeartbeats 4000000 in
set_option maxRecDepth 100000 in
theorem m_body11 (l : Launch) (G : GG) (h0 : Nat) (xx : Int32) (nw : Nat) (nk : Nat) (mhasKept : Int32) (nt : Nat) (mtaped : Int32) (nr : Nat) (mrowMany : Int32) (mroundOf : Int32) (mroundFrom : Int32) (mouts : Int32) (nm : Nat) (mfromHour : Int32) (mtoHour : Int32) (ns : Nat) (mfrom : Int32) (mto : Int32) (msort : Int32) (misFault : Int32) (mdeep : Int32) (mcoded : Int32) (mlines : Int32) (nl : Nat) (nc : Nat) (nF : Nat) (np : Nat) (ntr : Nat) (nb : Nat) (mbestCost : Int32) (nso : Nat) (nsi : Nat) (nit : Nat) (nsh : Nat) (nsf : Nat) (nss : Nat) (nrc : Nat) (jr : Nat) (jd : Nat) (mnumber : Int32) (mwhose : Int32) (msize : Int32) (misParted : Int32) (fnrc : Nat → Int32) (hjr : jr ≤ 30) (hjd : jd < 7) : MI l G yX12_body cX12_body 6 (some .int) 17 0 0 [.ref h0, .int 1, .int 1, .int xx] [(h0, .inr (12, [.ref nw, .ref nk, .int mhasKept, .ref nt, .int mtaped, .ref nr, .int mrowMany, .int mroundOf, .int mroundFrom, .int mouts, .ref nm, .int mfromHour, .int mtoHour, .ref ns, .int mfrom, .int mto, .int msort, .int misFault, .int mdeep, .int mcoded, .int mlines, .ref nl, .ref nc, .ref nF, .ref np, .ref ntr, .ref nb, .int mbestCost, .ref nso, .ref nsi, .ref nit, .ref nsh, .ref nsf, .ref nss, .ref nrc, .int (nI jr), .int (nI jd), .int mnumber, .int mwhose, .int msize, .int misParted])), (nrc, .inl (G.2.1, 30, .inl fnrc))] (fun (r : Int32) (u : Nat × Int32 × (Nat → Int32)) => (True) ∧ (u.1 ≤ 30)) (fun u : Nat × Int32 × (Nat → Int32) => [(h0, .inr (12, [.ref nw, .ref nk, .int mhasKept, .ref nt, .int mtaped, .ref nr, .int mrowMany, .int mroundOf, .int mroundFrom, .int mouts, .ref nm, .int mfromHour, .int mtoHour, .ref ns, .int mfrom, .int mto, .int msort, .int misFault, .int mdeep, .int mcoded, .int mlines, .ref nl, .ref nc, .ref nF, .ref np, .ref ntr, .ref nb, .int mbestCost, .ref nso, .ref nsi, .ref nit, .ref nsh, .ref nsf, .ref nss, .ref nrc, .int (nI u.1), .int (nI jd), .int mnumber, .int mwhose, .int msize, .int u.2.1])), (nrc, .inl (G.2.1, 30, .inl u.2.2))]) := by
  refine MI.start (by decide +kernel) (Nat.le_of_ble_eq_true rfl) ?_
  intro p e s m below meth c A ls hC hK hP hD hS hA hl
  have hl : lv_has ls 6 [(0, .ref h0), (1, .int 1), (2, .int 1), (3, .int xx)] := hl
  obtain ⟨hx, hb, hr, hml, hB, hown, hlocks, hnm⟩ := id hC
  refine lv_iconst (v := 4) hx hb dX12_body_0 (by decide) ?_
  refine lv_iload_n hx hb dX12_body_1 rfl (lv_at hl 1 rfl) ?_
  refine lv_imul hx hb dX12_body_2 ?_
  refine eqi (x1 := 4) (by decide) ?_
  refine lv_iload_n hx hb dX12_body_3 rfl (lv_at hl 2 rfl) ?_
  refine lv_iadd hx hb dX12_body_4 ?_
  refine eqi (x1 := 5) (by decide) ?_
  refine lv_tableIn (tgt := 207) hx hb dX12_body_5 (by decide) (by decide) rfl (by decide) ?_
  refine lv_aload_n hx hb dX12_body_207 rfl (lv_at hl 0 rfl) ?_
  refine lv_bipush (v := 20) hx hb dX12_body_208 (by decide) ?_
  refine vV (wr := []) hC hK hl hP hD hS hA (m_began l G h0 20 nw nk mhasKept nt mtaped nr mrowMany mroundOf mroundFrom mouts nm mfromHour mtoHour ns mfrom mto msort misFault mdeep mcoded mlines nl nc nF np ntr nb mbestCost nso nsi nit nsh nsf nss nrc jr (nI jd) mnumber mwhose msize misParted fnrc (by omega)) si_X12_366 [0, 1] [] rfl rfl (by decide) rfl (by decide) (by decide) rfl rfl rfl rfl rfl (Nat.le_of_ble_eq_true rfl) ⟨Nat.le_of_ble_eq_true rfl, Nat.le_of_ble_eq_true rfl⟩ ⟨Nat.le_of_ble_eq_true rfl, Nat.le_of_ble_eq_true rfl⟩ dX12_body_210 (fun u5701 H locs hr5700 hP hD hS => ?_)
  obtain ⟨jr15702, gtrc5703⟩ := u5701
  try dsimp only at hr5700
  have hP : va_P G.1 vwCl [(h0, .inr (12, [.ref nw, .ref nk, .int mhasKept, .ref nt, .int mtaped, .ref nr, .int mrowMany, .int mroundOf, .int mroundFrom, .int mouts, .ref nm, .int mfromHour, .int mtoHour, .ref ns, .int mfrom, .int mto, .int msort, .int misFault, .int mdeep, .int mcoded, .int mlines, .ref nl, .ref nc, .ref nF, .ref np, .ref ntr, .ref nb, .int mbestCost, .ref nso, .ref nsi, .ref nit, .ref nsh, .ref nsf, .ref nss, .ref nrc, .int (nI jr15702), .int (nI jd), .int mnumber, .int mwhose, .int msize, .int misParted])), (nrc, .inl (G.2.1, 30, .inl gtrc5703))] H := hP
  have hD : va_D A [(h0, .inr (12, [.ref nw, .ref nk, .int mhasKept, .ref nt, .int mtaped, .ref nr, .int mrowMany, .int mroundOf, .int mroundFrom, .int mouts, .ref nm, .int mfromHour, .int mtoHour, .ref ns, .int mfrom, .int mto, .int msort, .int misFault, .int mdeep, .int mcoded, .int mlines, .ref nl, .ref nc, .ref nF, .ref np, .ref ntr, .ref nb, .int mbestCost, .ref nso, .ref nsi, .ref nit, .ref nsh, .ref nsf, .ref nss, .ref nrc, .int (nI jr15702), .int (nI jd), .int mnumber, .int mwhose, .int msize, .int misParted])), (nrc, .inl (G.2.1, 30, .inl gtrc5703))] := hD
  have w5704 := hr5700
  refine lv_aload_n hx hb dX12_body_213 rfl (lv_at hl 0 rfl) ?_
  refine lv_iconst (v := 0) hx hb dX12_body_214 (by decide) ?_
  refine lv_iconst (v := 1) hx hb dX12_body_215 (by decide) ?_
  refine lv_iload_n hx hb dX12_body_216 rfl (lv_at hl 3 rfl) ?_
  refine iV (wr := []) hC hK hl hP hD hS hA (m_from01 l G h0 xx nw nk mhasKept nt mtaped nr mrowMany mroundOf mroundFrom mouts nm mfromHour mtoHour ns mfrom mto msort misFault mdeep mcoded mlines nl nc nF np ntr nb mbestCost nso nsi nit nsh nsf nss nrc jr15702 jd mnumber mwhose msize misParted gtrc5703 (by omega) (by omega)) si_X12_357 [0, 1] [] rfl rfl (by decide) rfl (by decide) (by decide) rfl rfl rfl rfl rfl (Nat.le_of_ble_eq_true rfl) ⟨Nat.le_of_ble_eq_true rfl, Nat.le_of_ble_eq_true rfl⟩ ⟨Nat.le_of_ble_eq_true rfl, Nat.le_of_ble_eq_true rfl⟩ dX12_body_217 (fun r5705 u5706 H locs hr5705 hP hD hS => ?_)
  obtain ⟨jr15707, ip15708, gtrc5709⟩ := u5706
  try dsimp only at hr5705
  have hP : va_P G.1 vwCl [(h0, .inr (12, [.ref nw, .ref nk, .int mhasKept, .ref nt, .int mtaped, .ref nr, .int mrowMany, .int mroundOf, .int mroundFrom, .int mouts, .ref nm, .int mfromHour, .int mtoHour, .ref ns, .int mfrom, .int mto, .int msort, .int misFault, .int mdeep, .int mcoded, .int mlines, .ref nl, .ref nc, .ref nF, .ref np, .ref ntr, .ref nb, .int mbestCost, .ref nso, .ref nsi, .ref nit, .ref nsh, .ref nsf, .ref nss, .ref nrc, .int (nI jr15707), .int (nI jd), .int mnumber, .int mwhose, .int msize, .int ip15708])), (nrc, .inl (G.2.1, 30, .inl gtrc5709))] H := hP
  have hD : va_D A [(h0, .inr (12, [.ref nw, .ref nk, .int mhasKept, .ref nt, .int mtaped, .ref nr, .int mrowMany, .int mroundOf, .int mroundFrom, .int mouts, .ref nm, .int mfromHour, .int mtoHour, .ref ns, .int mfrom, .int mto, .int msort, .int misFault, .int mdeep, .int mcoded, .int mlines, .ref nl, .ref nc, .ref nF, .ref np, .ref ntr, .ref nb, .int mbestCost, .ref nso, .ref nsi, .ref nit, .ref nsh, .ref nsf, .ref nss, .ref nrc, .int (nI jr15707), .int (nI jd), .int mnumber, .int mwhose, .int msize, .int ip15708])), (nrc, .inl (G.2.1, 30, .inl gtrc5709))] := hD
  obtain ⟨hr5705, w5710⟩ := hr5705
  refine lv_aload_n hx hb dX12_body_220 rfl (lv_at hl 0 rfl) ?_
  refine gf_X12_378 hC rfl hK hP 0 rfl rfl dX12_body_221 ?_
  refine lv_ixor hx hb dX12_body_224 ?_
  exact RI (v := r5705 ^^^ mnumber) hC hP hD hS [0, 1] (jr15707, ip15708, gtrc5709) rfl rfl (by decide) (⟨trivial, by omega⟩) rfl dX12_body_225
set_option maxHeartbeats 4000000 in
set_option maxRecDepth 100000 in
theorem m_from11 (l : Launch) (G : GG) (h0 : Nat) (xx : Int32) (nw : Nat) (nk : Nat) (mhasKept : Int32) (nt : Nat) (mtaped : Int32) (nr : Nat) (mrowMany : Int32) (mroundOf : Int32) (mroundFrom : Int32) (mouts : Int32) (nm : Nat) (mfromHour : Int32) (mtoHour : Int32) (ns : Nat) (mfrom : Int32) (mto : Int32) (msort : Int32) (misFault : Int32) (mdeep : Int32) (mcoded : Int32) (mlines : Int32) (nl : Nat) (nc : Nat) (nF : Nat) (np : Nat) (ntr : Nat) (nb : Nat) (mbestCost : Int32) (nso : Nat) (nsi : Nat) (nit : Nat) (nsh : Nat) (nsf : Nat) (nss : Nat) (nrc : Nat) (jr : Nat) (jd : Nat) (mnumber : Int32) (mwhose : Int32) (msize : Int32) (misParted : Int32) (fnrc : Nat → Int32) (hjr : jr ≤ 30) (hjd : jd < 7) : MI l G yX12_bodyFrom cX12_bodyFrom 5 (some .int) 18 0 0 [.ref h0, .int 1, .int 1, .int xx] [(h0, .inr (12, [.ref nw, .ref nk, .int mhasKept, .ref nt, .int mtaped, .ref nr, .int mrowMany, .int mroundOf, .int mroundFrom, .int mouts, .ref nm, .int mfromHour, .int mtoHour, .ref ns, .int mfrom, .int mto, .int msort, .int misFault, .int mdeep, .int mcoded, .int mlines, .ref nl, .ref nc, .ref nF, .ref np, .ref ntr, .ref nb, .int mbestCost, .ref nso, .ref nsi, .ref nit, .ref nsh, .ref nsf, .ref nss, .ref nrc, .int (nI jr), .int (nI jd), .int mnumber, .int mwhose, .int msize, .int misParted])), (nrc, .inl (G.2.1, 30, .inl fnrc))] (fun (r : Int32) (u : Nat × Int32 × (Nat → Int32)) => (True) ∧ (u.1 ≤ 30)) (fun u : Nat × Int32 × (Nat → Int32) => [(h0, .inr (12, [.ref nw, .ref nk, .int mhasKept, .ref nt, .int mtaped, .ref nr, .int mrowMany, .int mroundOf, .int mroundFrom, .int mouts, .ref nm, .int mfromHour, .int mtoHour, .ref ns, .int mfrom, .int mto, .int msort, .int misFault, .int mdeep, .int mcoded, .int mlines, .ref nl, .ref nc, .ref nF, .ref np, .ref ntr, .ref nb, .int mbestCost, .ref nso, .ref nsi, .ref nit, .ref nsh, .ref nsf, .ref nss, .ref nrc, .int (nI u.1), .int (nI jd), .int mnumber, .int mwhose, .int msize, .int u.2.1])), (nrc, .inl (G.2.1, 30, .inl u.2.2))]) := by
  refine MI.start (by decide +kernel) (Nat.le_of_ble_eq_true rfl) ?_
  intro p e s m below meth c A ls hC hK hP hD hS hA hl
  have hl : lv_has ls 5 [(0, .ref h0), (1, .int 1), (2, .int 1), (3, .int xx)] := hl
  obtain ⟨hx, hb, hr, hml, hB, hown, hlocks, hnm⟩ := id hC
  refine lv_iload_n hx hb dX12_bodyFrom_0 rfl (lv_at hl 1 rfl) ?_
  refine lv_istore (lv' := [(4, .int 1), (0, .ref h0), (1, .int 1), (2, .int 1), (3, .int xx)]) hx hb dX12_bodyFrom_1 hl (by decide) rfl (fun ls hl => ?_)
  refine lv_iload hx hb dX12_bodyFrom_3 (lv_at hl 0 rfl) ?_
  refine lv_iload_n hx hb dX12_bodyFrom_5 rfl (lv_at hl 3 rfl) ?_
  refine pS hC hK hl (m_hasOwn11 l G) si_X12_360 rfl rfl (Nat.le_of_ble_eq_true rfl) ⟨Nat.le_of_ble_eq_true rfl, Nat.le_of_ble_eq_true rfl⟩ ⟨by first | exact Nat.le_of_ble_eq_true rfl | exact Nat.zero_le _, by first | exact Nat.le_of_ble_eq_true rfl | exact Nat.zero_le _⟩ dX12_bodyFrom_6 (fun r5711 hr5711 => ?_)
  obtain rfl := hr5711
  refine lv_if_ne (tgt := 22) hx hb dX12_bodyFrom_9 (by decide) (fun _ => ?_) (fun c9 => absurd c9 (by decide))
  refine lv_aload_n hx hb dX12_bodyFrom_22 rfl (lv_at hl 1 rfl) ?_
  refine lv_iload hx hb dX12_bodyFrom_23 (lv_at hl 0 rfl) ?_
  refine lv_iload_n hx hb dX12_bodyFrom_25 rfl (lv_at hl 3 rfl) ?_
  refine lv_iload_n hx hb dX12_bodyFrom_26 rfl (lv_at hl 4 rfl) ?_
  refine iV (wr := []) hC hK hl hP hD hS hA (m_body11 l G h0 xx nw nk mhasKept nt mtaped nr mrowMany mroundOf mroundFrom mouts nm mfromHour mtoHour ns mfrom mto msort misFault mdeep mcoded mlines nl nc nF np ntr nb mbestCost nso nsi nit nsh nsf nss nrc jr jd mnumber mwhose msize misParted fnrc (by omega) (by omega)) si_X12_363 [0, 1] [] rfl rfl (by decide) rfl (by decide) (by decide) rfl rfl rfl rfl rfl (Nat.le_of_ble_eq_true rfl) ⟨Nat.le_of_ble_eq_true rfl, Nat.le_of_ble_eq_true rfl⟩ ⟨Nat.le_of_ble_eq_true rfl, Nat.le_of_ble_eq_true rfl⟩ dX12_bodyFrom_27 (fun r5713 u5714 H locs hr5713 hP hD hS => ?_)
  obtain ⟨jr15715, ip15716, gtrc5717⟩ := u5714
  try dsimp only at hr5713
  have hP : va_P G.1 vwCl [(h0, .inr (12, [.ref nw, .ref nk, .int mhasKept, .ref nt, .int mtaped, .ref nr, .int mrowMany, .int mroundOf, .int mroundFrom, .int mouts, .ref nm, .int mfromHour, .int mtoHour, .ref ns, .int mfrom, .int mto, .int msort, .int misFault, .int mdeep, .int mcoded, .int mlines, .ref nl, .ref nc, .ref nF, .ref np, .ref ntr, .ref nb, .int mbestCost, .ref nso, .ref nsi, .ref nit, .ref nsh, .ref nsf, .ref nss, .ref nrc, .int (nI jr15715), .int (nI jd), .int mnumber, .int mwhose, .int msize, .int ip15716])), (nrc, .inl (G.2.1, 30, .inl gtrc5717))] H := hP
  have hD : va_D A [(h0, .inr (12, [.ref nw, .ref nk, .int mhasKept, .ref nt, .int mtaped, .ref nr, .int mrowMany, .int mroundOf, .int mroundFrom, .int mouts, .ref nm, .int mfromHour, .int mtoHour, .ref ns, .int mfrom, .int mto, .int msort, .int misFault, .int mdeep, .int mcoded, .int mlines, .ref nl, .ref nc, .ref nF, .ref np, .ref ntr, .ref nb, .int mbestCost, .ref nso, .ref nsi, .ref nit, .ref nsh, .ref nsf, .ref nss, .ref nrc, .int (nI jr15715), .int (nI jd), .int mnumber, .int mwhose, .int msize, .int ip15716])), (nrc, .inl (G.2.1, 30, .inl gtrc5717))] := hD
  obtain ⟨hr5713, w5718⟩ := hr5713
  exact RI (v := r5713) hC hP hD hS [0, 1] (jr15715, ip15716, gtrc5717) rfl rfl (by decide) (⟨trivial, by omega⟩) rfl dX12_bodyFrom_30
set_option maxHeartbeats 4000000 in
set_option maxRecDepth 100000 in
theorem m_body31 (l : Launch) (G : GG) (h0 : Nat) (xx : Int32) (nw : Nat) (nk : Nat) (mhasKept : Int32) (nt : Nat) (mtaped : Int32) (nr : Nat) (mrowMany : Int32) (mroundOf : Int32) (mroundFrom : Int32) (mouts : Int32) (nm : Nat) (mfromHour : Int32) (mtoHour : Int32) (ns : Nat) (mfrom : Int32) (mto : Int32) (msort : Int32) (misFault : Int32) (mdeep : Int32) (mcoded : Int32) (mlines : Int32) (nl : Nat) (nc : Nat) (nF : Nat) (np : Nat) (ntr : Nat) (nb : Nat) (mbestCost : Int32) (nso : Nat) (nsi : Nat) (nit : Nat) (nsh : Nat) (nsf : Nat) (nss : Nat) (nrc : Nat) (jr : Nat) (jd : Nat) (mnumber : Int32) (mwhose : Int32) (msize : Int32) (misParted : Int32) (fnrc : Nat → Int32) (hjr : jr ≤ 30) (hjd : jd < 7) : MI l G yX12_body cX12_body 6 (some .int) 19 0 0 [.ref h0, .int 3, .int 1, .int xx] [(h0, .inr (12, [.ref nw, .ref nk, .int mhasKept, .ref nt, .int mtaped, .ref nr, .int mrowMany, .int mroundOf, .int mroundFrom, .int mouts, .ref nm, .int mfromHour, .int mtoHour, .ref ns, .int mfrom, .int mto, .int msort, .int misFault, .int mdeep, .int mcoded, .int mlines, .ref nl, .ref nc, .ref nF, .ref np, .ref ntr, .ref nb, .int mbestCost, .ref nso, .ref nsi, .ref nit, .ref nsh, .ref nsf, .ref nss, .ref nrc, .int (nI jr), .int (nI jd), .int mnumber, .int mwhose, .int msize, .int misParted])), (nrc, .inl (G.2.1, 30, .inl fnrc))] (fun (r : Int32) (u : Nat × Int32 × (Nat → Int32)) => (True) ∧ (u.1 ≤ 30)) (fun u : Nat × Int32 × (Nat → Int32) => [(h0, .inr (12, [.ref nw, .ref nk, .int mhasKept, .ref nt, .int mtaped, .ref nr, .int mrowMany, .int mroundOf, .int mroundFrom, .int mouts, .ref nm, .int mfromHour, .int mtoHour, .ref ns, .int mfrom, .int mto, .int msort, .int misFault, .int mdeep, .int mcoded, .int mlines, .ref nl, .ref nc, .ref nF, .ref np, .ref ntr, .ref nb, .int mbestCost, .ref nso, .ref nsi, .ref nit, .ref nsh, .ref nsf, .ref nss, .ref nrc, .int (nI u.1), .int (nI jd), .int mnumber, .int mwhose, .int msize, .int u.2.1])), (nrc, .inl (G.2.1, 30, .inl u.2.2))]) := by
  refine MI.start (by decide +kernel) (Nat.le_of_ble_eq_true rfl) ?_
  intro p e s m below meth c A ls hC hK hP hD hS hA hl
  have hl : lv_has ls 6 [(0, .ref h0), (1, .int 3), (2, .int 1), (3, .int xx)] := hl
  obtain ⟨hx, hb, hr, hml, hB, hown, hlocks, hnm⟩ := id hC
  refine lv_iconst (v := 4) hx hb dX12_body_0 (by decide) ?_
  refine lv_iload_n hx hb dX12_body_1 rfl (lv_at hl 1 rfl) ?_
  refine lv_imul hx hb dX12_body_2 ?_
  refine eqi (x1 := 12) (by decide) ?_
  refine lv_iload_n hx hb dX12_body_3 rfl (lv_at hl 2 rfl) ?_
  refine lv_iadd hx hb dX12_body_4 ?_
  refine eqi (x1 := 13) (by decide) ?_
  refine lv_tableIn (tgt := 242) hx hb dX12_body_5 (by decide) (by decide) rfl (by decide) ?_
  refine lv_aload_n hx hb dX12_body_242 rfl (lv_at hl 0 rfl) ?_
  refine lv_bipush (v := 40) hx hb dX12_body_243 (by decide) ?_
  refine vV (wr := []) hC hK hl hP hD hS hA (m_began l G h0 40 nw nk mhasKept nt mtaped nr mrowMany mroundOf mroundFrom mouts nm mfromHour mtoHour ns mfrom mto msort misFault mdeep mcoded mlines nl nc nF np ntr nb mbestCost nso nsi nit nsh nsf nss nrc jr (nI jd) mnumber mwhose msize misParted fnrc (by omega)) si_X12_366 [0, 1] [] rfl rfl (by decide) rfl (by decide) (by decide) rfl rfl rfl rfl rfl (Nat.le_of_ble_eq_true rfl) ⟨Nat.le_of_ble_eq_true rfl, Nat.le_of_ble_eq_true rfl⟩ ⟨Nat.le_of_ble_eq_true rfl, Nat.le_of_ble_eq_true rfl⟩ dX12_body_245 (fun u5720 H locs hr5719 hP hD hS => ?_)
  obtain ⟨jr15721, gtrc5722⟩ := u5720
  try dsimp only at hr5719
  have hP : va_P G.1 vwCl [(h0, .inr (12, [.ref nw, .ref nk, .int mhasKept, .ref nt, .int mtaped, .ref nr, .int mrowMany, .int mroundOf, .int mroundFrom, .int mouts, .ref nm, .int mfromHour, .int mtoHour, .ref ns, .int mfrom, .int mto, .int msort, .int misFault, .int mdeep, .int mcoded, .int mlines, .ref nl, .ref nc, .ref nF, .ref np, .ref ntr, .ref nb, .int mbestCost, .ref nso, .ref nsi, .ref nit, .ref nsh, .ref nsf, .ref nss, .ref nrc, .int (nI jr15721), .int (nI jd), .int mnumber, .int mwhose, .int msize, .int misParted])), (nrc, .inl (G.2.1, 30, .inl gtrc5722))] H := hP
  have hD : va_D A [(h0, .inr (12, [.ref nw, .ref nk, .int mhasKept, .ref nt, .int mtaped, .ref nr, .int mrowMany, .int mroundOf, .int mroundFrom, .int mouts, .ref nm, .int mfromHour, .int mtoHour, .ref ns, .int mfrom, .int mto, .int msort, .int misFault, .int mdeep, .int mcoded, .int mlines, .ref nl, .ref nc, .ref nF, .ref np, .ref ntr, .ref nb, .int mbestCost, .ref nso, .ref nsi, .ref nit, .ref nsh, .ref nsf, .ref nss, .ref nrc, .int (nI jr15721), .int (nI jd), .int mnumber, .int mwhose, .int msize, .int misParted])), (nrc, .inl (G.2.1, 30, .inl gtrc5722))] := hD
  have w5723 := hr5719
  refine lv_iconst (v := 0) hx hb dX12_body_248 (by decide) ?_
  refine lv_aload_n hx hb dX12_body_249 rfl (lv_at hl 0 rfl) ?_
  refine lv_iconst (v := 1) hx hb dX12_body_250 (by decide) ?_
  refine lv_iconst (v := 1) hx hb dX12_body_251 (by decide) ?_
  refine lv_iload_n hx hb dX12_body_252 rfl (lv_at hl 3 rfl) ?_
  refine iV (wr := []) hC hK hl hP hD hS hA (m_from11 l G h0 xx nw nk mhasKept nt mtaped nr mrowMany mroundOf mroundFrom mouts nm mfromHour mtoHour ns mfrom mto msort misFault mdeep mcoded mlines nl nc nF np ntr nb mbestCost nso nsi nit nsh nsf nss nrc jr15721 jd mnumber mwhose msize misParted gtrc5722 (by omega) (by omega)) si_X12_357 [0, 1] [] rfl rfl (by decide) rfl (by decide) (by decide) rfl rfl rfl rfl rfl (Nat.le_of_ble_eq_true rfl) ⟨Nat.le_of_ble_eq_true rfl, Nat.le_of_ble_eq_true rfl⟩ ⟨Nat.le_of_ble_eq_true rfl, Nat.le_of_ble_eq_true rfl⟩ dX12_body_253 (fun r5724 u5725 H locs hr5724 hP hD hS => ?_)
  obtain ⟨jr15726, ip15727, gtrc5728⟩ := u5725
  try dsimp only at hr5724
  have hP : va_P G.1 vwCl [(h0, .inr (12, [.ref nw, .ref nk, .int mhasKept, .ref nt, .int mtaped, .ref nr, .int mrowMany, .int mroundOf, .int mroundFrom, .int mouts, .ref nm, .int mfromHour, .int mtoHour, .ref ns, .int mfrom, .int mto, .int msort, .int misFault, .int mdeep, .int mcoded, .int mlines, .ref nl, .ref nc, .ref nF, .ref np, .ref ntr, .ref nb, .int mbestCost, .ref nso, .ref nsi, .ref nit, .ref nsh, .ref nsf, .ref nss, .ref nrc, .int (nI jr15726), .int (nI jd), .int mnumber, .int mwhose, .int msize, .int ip15727])), (nrc, .inl (G.2.1, 30, .inl gtrc5728))] H := hP
  have hD : va_D A [(h0, .inr (12, [.ref nw, .ref nk, .int mhasKept, .ref nt, .int mtaped, .ref nr, .int mrowMany, .int mroundOf, .int mroundFrom, .int mouts, .ref nm, .int mfromHour, .int mtoHour, .ref ns, .int mfrom, .int mto, .int msort, .int misFault, .int mdeep, .int mcoded, .int mlines, .ref nl, .ref nc, .ref nF, .ref np, .ref ntr, .ref nb, .int mbestCost, .ref nso, .ref nsi, .ref nit, .ref nsh, .ref nsf, .ref nss, .ref nrc, .int (nI jr15726), .int (nI jd), .int mnumber, .int mwhose, .int msize, .int ip15727])), (nrc, .inl (G.2.1, 30, .inl gtrc5728))] := hD
  obtain ⟨hr5724, w5729⟩ := hr5724
  refine lv_isub hx hb dX12_body_256 ?_
  exact RI (v := 0 - r5724) hC hP hD hS [0, 1] (jr15726, ip15727, gtrc5728) rfl rfl (by decide) (⟨trivial, by omega⟩) rfl dX12_body_257
set_option maxHeartbeats 4000000 in
set_option maxRecDepth 100000 in
theorem m_from31 (l : Launch) (G : GG) (h0 : Nat) (xx : Int32) (nw : Nat) (nk : Nat) (mhasKept : Int32) (nt : Nat) (mtaped : Int32) (nr : Nat) (mrowMany : Int32) (mroundOf : Int32) (mroundFrom : Int32) (mouts : Int32) (nm : Nat) (mfromHour : Int32) (mtoHour : Int32) (ns : Nat) (mfrom : Int32) (mto : Int32) (msort : Int32) (misFault : Int32) (mdeep : Int32) (mcoded : Int32) (mlines : Int32) (nl : Nat) (nc : Nat) (nF : Nat) (np : Nat) (ntr : Nat) (nb : Nat) (mbestCost : Int32) (nso : Nat) (nsi : Nat) (nit : Nat) (nsh : Nat) (nsf : Nat) (nss : Nat) (nrc : Nat) (jr : Nat) (jd : Nat) (mnumber : Int32) (mwhose : Int32) (msize : Int32) (misParted : Int32) (fnrc : Nat → Int32) (hjr : jr ≤ 30) (hjd : jd < 7) : MI l G yX12_bodyFrom cX12_bodyFrom 5 (some .int) 20 0 0 [.ref h0, .int 3, .int 1, .int xx] [(h0, .inr (12, [.ref nw, .ref nk, .int mhasKept, .ref nt, .int mtaped, .ref nr, .int mrowMany, .int mroundOf, .int mroundFrom, .int mouts, .ref nm, .int mfromHour, .int mtoHour, .ref ns, .int mfrom, .int mto, .int msort, .int misFault, .int mdeep, .int mcoded, .int mlines, .ref nl, .ref nc, .ref nF, .ref np, .ref ntr, .ref nb, .int mbestCost, .ref nso, .ref nsi, .ref nit, .ref nsh, .ref nsf, .ref nss, .ref nrc, .int (nI jr), .int (nI jd), .int mnumber, .int mwhose, .int msize, .int misParted])), (nrc, .inl (G.2.1, 30, .inl fnrc))] (fun (r : Int32) (u : Nat × Int32 × (Nat → Int32)) => (True) ∧ (u.1 ≤ 30)) (fun u : Nat × Int32 × (Nat → Int32) => [(h0, .inr (12, [.ref nw, .ref nk, .int mhasKept, .ref nt, .int mtaped, .ref nr, .int mrowMany, .int mroundOf, .int mroundFrom, .int mouts, .ref nm, .int mfromHour, .int mtoHour, .ref ns, .int mfrom, .int mto, .int msort, .int misFault, .int mdeep, .int mcoded, .int mlines, .ref nl, .ref nc, .ref nF, .ref np, .ref ntr, .ref nb, .int mbestCost, .ref nso, .ref nsi, .ref nit, .ref nsh, .ref nsf, .ref nss, .ref nrc, .int (nI u.1), .int (nI jd), .int mnumber, .int mwhose, .int msize, .int u.2.1])), (nrc, .inl (G.2.1, 30, .inl u.2.2))]) := by
  refine MI.start (by decide +kernel) (Nat.le_of_ble_eq_true rfl) ?_
  intro p e s m below meth c A ls hC hK hP hD hS hA hl
  have hl : lv_has ls 5 [(0, .ref h0), (1, .int 3), (2, .int 1), (3, .int xx)] := hl
  obtain ⟨hx, hb, hr, hml, hB, hown, hlocks, hnm⟩ := id hC
  refine lv_iload_n hx hb dX12_bodyFrom_0 rfl (lv_at hl 1 rfl) ?_
  refine lv_istore (lv' := [(4, .int 3), (0, .ref h0), (1, .int 3), (2, .int 1), (3, .int xx)]) hx hb dX12_bodyFrom_1 hl (by decide) rfl (fun ls hl => ?_)
  refine lv_iload hx hb dX12_bodyFrom_3 (lv_at hl 0 rfl) ?_
  refine lv_iload_n hx hb dX12_bodyFrom_5 rfl (lv_at hl 3 rfl) ?_
  refine pS hC hK hl (m_hasOwn31 l G) si_X12_360 rfl rfl (Nat.le_of_ble_eq_true rfl) ⟨Nat.le_of_ble_eq_true rfl, Nat.le_of_ble_eq_true rfl⟩ ⟨by first | exact Nat.le_of_ble_eq_true rfl | exact Nat.zero_le _, by first | exact Nat.le_of_ble_eq_true rfl | exact Nat.zero_le _⟩ dX12_bodyFrom_6 (fun r5730 hr5730 => ?_)
  obtain rfl := hr5730
  refine lv_if_ne (tgt := 22) hx hb dX12_bodyFrom_9 (by decide) (fun _ => ?_) (fun c9 => absurd c9 (by decide))
  refine lv_aload_n hx hb dX12_bodyFrom_22 rfl (lv_at hl 1 rfl) ?_
  refine lv_iload hx hb dX12_bodyFrom_23 (lv_at hl 0 rfl) ?_
  refine lv_iload_n hx hb dX12_bodyFrom_25 rfl (lv_at hl 3 rfl) ?_
  refine lv_iload_n hx hb dX12_bodyFrom_26 rfl (lv_at hl 4 rfl) ?_
  refine iV (wr := []) hC hK hl hP hD hS hA (m_body31 l G h0 xx nw nk mhasKept nt mtaped nr mrowMany mroundOf mroundFrom mouts nm mfromHour mtoHour ns mfrom mto msort misFault mdeep mcoded mlines nl nc nF np ntr nb mbestCost nso nsi nit nsh nsf nss nrc jr jd mnumber mwhose msize misParted fnrc (by omega) (by omega)) si_X12_363 [0, 1] [] rfl rfl (by decide) rfl (by decide) (by decide) rfl rfl rfl rfl rfl (Nat.le_of_ble_eq_true rfl) ⟨Nat.le_of_ble_eq_true rfl, Nat.le_of_ble_eq_true rfl⟩ ⟨Nat.le_of_ble_eq_true rfl, Nat.le_of_ble_eq_true rfl⟩ dX12_bodyFrom_27 (fun r5732 u5733 H locs hr5732 hP hD hS => ?_)
  obtain ⟨jr15734, ip15735, gtrc5736⟩ := u5733
  try dsimp only at hr5732
  have hP : va_P G.1 vwCl [(h0, .inr (12, [.ref nw, .ref nk, .int mhasKept, .ref nt, .int mtaped, .ref nr, .int mrowMany, .int mroundOf, .int mroundFrom, .int mouts, .ref nm, .int mfromHour, .int mtoHour, .ref ns, .int mfrom, .int mto, .int msort, .int misFault, .int mdeep, .int mcoded, .int mlines, .ref nl, .ref nc, .ref nF, .ref np, .ref ntr, .ref nb, .int mbestCost, .ref nso, .ref nsi, .ref nit, .ref nsh, .ref nsf, .ref nss, .ref nrc, .int (nI jr15734), .int (nI jd), .int mnumber, .int mwhose, .int msize, .int ip15735])), (nrc, .inl (G.2.1, 30, .inl gtrc5736))] H := hP
  have hD : va_D A [(h0, .inr (12, [.ref nw, .ref nk, .int mhasKept, .ref nt, .int mtaped, .ref nr, .int mrowMany, .int mroundOf, .int mroundFrom, .int mouts, .ref nm, .int mfromHour, .int mtoHour, .ref ns, .int mfrom, .int mto, .int msort, .int misFault, .int mdeep, .int mcoded, .int mlines, .ref nl, .ref nc, .ref nF, .ref np, .ref ntr, .ref nb, .int mbestCost, .ref nso, .ref nsi, .ref nit, .ref nsh, .ref nsf, .ref nss, .ref nrc, .int (nI jr15734), .int (nI jd), .int mnumber, .int mwhose, .int msize, .int ip15735])), (nrc, .inl (G.2.1, 30, .inl gtrc5736))] := hD
  obtain ⟨hr5732, w5737⟩ := hr5732
  exact RI (v := r5732) hC hP hD hS [0, 1] (jr15734, ip15735, gtrc5736) rfl rfl (by decide) (⟨trivial, by omega⟩) rfl dX12_bodyFrom_30
set_option maxHeartbeats 4000000 in
set_option maxRecDepth 100000 in
theorem m_from21 (l : Launch) (G : GG) (h0 : Nat) (xx : Int32) (nw : Nat) (nk : Nat) (mhasKept : Int32) (nt : Nat) (mtaped : Int32) (nr : Nat) (mrowMany : Int32) (mroundOf : Int32) (mroundFrom : Int32) (mouts : Int32) (nm : Nat) (mfromHour : Int32) (mtoHour : Int32) (ns : Nat) (mfrom : Int32) (mto : Int32) (msort : Int32) (misFault : Int32) (mdeep : Int32) (mcoded : Int32) (mlines : Int32) (nl : Nat) (nc : Nat) (nF : Nat) (np : Nat) (ntr : Nat) (nb : Nat) (mbestCost : Int32) (nso : Nat) (nsi : Nat) (nit : Nat) (nsh : Nat) (nsf : Nat) (nss : Nat) (nrc : Nat) (jr : Nat) (jd : Nat) (mnumber : Int32) (mwhose : Int32) (msize : Int32) (misParted : Int32) (fnrc : Nat → Int32) (hjr : jr ≤ 30) (hjd : jd < 7) : MI l G yX12_bodyFrom cX12_bodyFrom 5 (some .int) 24 0 0 [.ref h0, .int 2, .int 1, .int xx] [(h0, .inr (12, [.ref nw, .ref nk, .int mhasKept, .ref nt, .int mtaped, .ref nr, .int mrowMany, .int mroundOf, .int mroundFrom, .int mouts, .ref nm, .int mfromHour, .int mtoHour, .ref ns, .int mfrom, .int mto, .int msort, .int misFault, .int mdeep, .int mcoded, .int mlines, .ref nl, .ref nc, .ref nF, .ref np, .ref ntr, .ref nb, .int mbestCost, .ref nso, .ref nsi, .ref nit, .ref nsh, .ref nsf, .ref nss, .ref nrc, .int (nI jr), .int (nI jd), .int mnumber, .int mwhose, .int msize, .int misParted])), (nrc, .inl (G.2.1, 30, .inl fnrc))] (fun (r : Int32) (u : Nat × Int32 × (Nat → Int32)) => (True) ∧ (u.1 ≤ 30)) (fun u : Nat × Int32 × (Nat → Int32) => [(h0, .inr (12, [.ref nw, .ref nk, .int mhasKept, .ref nt, .int mtaped, .ref nr, .int mrowMany, .int mroundOf, .int mroundFrom, .int mouts, .ref nm, .int mfromHour, .int mtoHour, .ref ns, .int mfrom, .int mto, .int msort, .int misFault, .int mdeep, .int mcoded, .int mlines, .ref nl, .ref nc, .ref nF, .ref np, .ref ntr, .ref nb, .int mbestCost, .ref nso, .ref nsi, .ref nit, .ref nsh, .ref nsf, .ref nss, .ref nrc, .int (nI u.1), .int (nI jd), .int mnumber, .int mwhose, .int msize, .int u.2.1])), (nrc, .inl (G.2.1, 30, .inl u.2.2))]) := by
  refine MI.start (by decide +kernel) (Nat.le_of_ble_eq_true rfl) ?_
  intro p e s m below meth c A ls hC hK hP hD hS hA hl
  have hl : lv_has ls 5 [(0, .ref h0), (1, .int 2), (2, .int 1), (3, .int xx)] := hl
  obtain ⟨hx, hb, hr, hml, hB, hown, hlocks, hnm⟩ := id hC
  refine lv_iload_n hx hb dX12_bodyFrom_0 rfl (lv_at hl 1 rfl) ?_
  refine lv_istore (lv' := [(4, .int 2), (0, .ref h0), (1, .int 2), (2, .int 1), (3, .int xx)]) hx hb dX12_bodyFrom_1 hl (by decide) rfl (fun ls hl => ?_)
  refine lv_iload hx hb dX12_bodyFrom_3 (lv_at hl 0 rfl) ?_
  refine lv_iload_n hx hb dX12_bodyFrom_5 rfl (lv_at hl 3 rfl) ?_
  refine pS hC hK hl (m_hasOwn21 l G) si_X12_360 rfl rfl (Nat.le_of_ble_eq_true rfl) ⟨Nat.le_of_ble_eq_true rfl, Nat.le_of_ble_eq_true rfl⟩ ⟨by first | exact Nat.le_of_ble_eq_true rfl | exact Nat.zero_le _, by first | exact Nat.le_of_ble_eq_true rfl | exact Nat.zero_le _⟩ dX12_bodyFrom_6 (fun r5738 hr5738 => ?_)
  obtain rfl := hr5738
  refine lv_if_ne (tgt := 22) hx hb dX12_bodyFrom_9 (by decide) (fun c9 => absurd (by decide) c9) (fun _ => ?_)
  refine lv_iload hx hb dX12_bodyFrom_12 (lv_at hl 0 rfl) ?_
  refine pS hC hK hl (m_above2 l G) si_X12_348 rfl rfl (Nat.le_of_ble_eq_true rfl) ⟨Nat.le_of_ble_eq_true rfl, Nat.le_of_ble_eq_true rfl⟩ ⟨by first | exact Nat.le_of_ble_eq_true rfl | exact Nat.zero_le _, by first | exact Nat.le_of_ble_eq_true rfl | exact Nat.zero_le _⟩ dX12_bodyFrom_14 (fun r5740 hr5740 => ?_)
  obtain rfl := hr5740
  refine lv_istore (lv' := [(4, .int 0), (0, .ref h0), (1, .int 2), (2, .int 1), (3, .int xx)]) hx hb dX12_bodyFrom_17 hl (by decide) rfl (fun ls hl => ?_)
  refine lv_goto (tgt := 3) hx hb dX12_bodyFrom_19 (by decide) ?_
  refine lv_iload hx hb dX12_bodyFrom_3 (lv_at hl 0 rfl) ?_
  refine lv_iload_n hx hb dX12_bodyFrom_5 rfl (lv_at hl 3 rfl) ?_
  refine pS hC hK hl (m_hasOwn01 l G) si_X12_360 rfl rfl (Nat.le_of_ble_eq_true rfl) ⟨Nat.le_of_ble_eq_true rfl, Nat.le_of_ble_eq_true rfl⟩ ⟨by first | exact Nat.le_of_ble_eq_true rfl | exact Nat.zero_le _, by first | exact Nat.le_of_ble_eq_true rfl | exact Nat.zero_le _⟩ dX12_bodyFrom_6 (fun r5742 hr5742 => ?_)
  obtain rfl := hr5742
  refine lv_if_ne (tgt := 22) hx hb dX12_bodyFrom_9 (by decide) (fun _ => ?_) (fun c9 => absurd c9 (by decide))
  refine lv_aload_n hx hb dX12_bodyFrom_22 rfl (lv_at hl 1 rfl) ?_
  refine lv_iload hx hb dX12_bodyFrom_23 (lv_at hl 0 rfl) ?_
  refine lv_iload_n hx hb dX12_bodyFrom_25 rfl (lv_at hl 3 rfl) ?_
  refine lv_iload_n hx hb dX12_bodyFrom_26 rfl (lv_at hl 4 rfl) ?_
  refine iV (wr := []) hC hK hl hP hD hS hA (m_body01 l G h0 xx nw nk mhasKept nt mtaped nr mrowMany mroundOf mroundFrom mouts nm mfromHour mtoHour ns mfrom mto msort misFault mdeep mcoded mlines nl nc nF np ntr nb mbestCost nso nsi nit nsh nsf nss nrc jr jd mnumber mwhose msize misParted fnrc (by omega) (by omega)) si_X12_363 [0, 1] [] rfl rfl (by decide) rfl (by decide) (by decide) rfl rfl rfl rfl rfl (Nat.le_of_ble_eq_true rfl) ⟨Nat.le_of_ble_eq_true rfl, Nat.le_of_ble_eq_true rfl⟩ ⟨Nat.le_of_ble_eq_true rfl, Nat.le_of_ble_eq_true rfl⟩ dX12_bodyFrom_27 (fun r5744 u5745 H locs hr5744 hP hD hS => ?_)
  obtain ⟨jr15746, ip15747, gtrc5748⟩ := u5745
  try dsimp only at hr5744
  have hP : va_P G.1 vwCl [(h0, .inr (12, [.ref nw, .ref nk, .int mhasKept, .ref nt, .int mtaped, .ref nr, .int mrowMany, .int mroundOf, .int mroundFrom, .int mouts, .ref nm, .int mfromHour, .int mtoHour, .ref ns, .int mfrom, .int mto, .int msort, .int misFault, .int mdeep, .int mcoded, .int mlines, .ref nl, .ref nc, .ref nF, .ref np, .ref ntr, .ref nb, .int mbestCost, .ref nso, .ref nsi, .ref nit, .ref nsh, .ref nsf, .ref nss, .ref nrc, .int (nI jr15746), .int (nI jd), .int mnumber, .int mwhose, .int msize, .int ip15747])), (nrc, .inl (G.2.1, 30, .inl gtrc5748))] H := hP
  have hD : va_D A [(h0, .inr (12, [.ref nw, .ref nk, .int mhasKept, .ref nt, .int mtaped, .ref nr, .int mrowMany, .int mroundOf, .int mroundFrom, .int mouts, .ref nm, .int mfromHour, .int mtoHour, .ref ns, .int mfrom, .int mto, .int msort, .int misFault, .int mdeep, .int mcoded, .int mlines, .ref nl, .ref nc, .ref nF, .ref np, .ref ntr, .ref nb, .int mbestCost, .ref nso, .ref nsi, .ref nit, .ref nsh, .ref nsf, .ref nss, .ref nrc, .int (nI jr15746), .int (nI jd), .int mnumber, .int mwhose, .int msize, .int ip15747])), (nrc, .inl (G.2.1, 30, .inl gtrc5748))] := hD
  obtain ⟨hr5744, w5749⟩ := hr5744
  exact RI (v := r5744) hC hP hD hS [0, 1] (jr15746, ip15747, gtrc5748) rfl rfl (by decide) (⟨trivial, by omega⟩) rfl dX12_bodyFrom_30
set_option maxHeartbeats 4000000 in
set_option maxRecDepth 100000 in
theorem m_from41 (l : Launch) (G : GG) (h0 : Nat) (xx : Int32) (nw : Nat) (nk : Nat) (mhasKept : Int32) (nt : Nat) (mtaped : Int32) (nr : Nat) (mrowMany : Int32) (mroundOf : Int32) (mroundFrom : Int32) (mouts : Int32) (nm : Nat) (mfromHour : Int32) (mtoHour : Int32) (ns : Nat) (mfrom : Int32) (mto : Int32) (msort : Int32) (misFault : Int32) (mdeep : Int32) (mcoded : Int32) (mlines : Int32) (nl : Nat) (nc : Nat) (nF : Nat) (np : Nat) (ntr : Nat) (nb : Nat) (mbestCost : Int32) (nso : Nat) (nsi : Nat) (nit : Nat) (nsh : Nat) (nsf : Nat) (nss : Nat) (nrc : Nat) (jr : Nat) (jd : Nat) (mnumber : Int32) (mwhose : Int32) (msize : Int32) (misParted : Int32) (fnrc : Nat → Int32) (hjr : jr ≤ 30) (hjd : jd < 7) : MI l G yX12_bodyFrom cX12_bodyFrom 5 (some .int) 24 0 0 [.ref h0, .int 4, .int 1, .int xx] [(h0, .inr (12, [.ref nw, .ref nk, .int mhasKept, .ref nt, .int mtaped, .ref nr, .int mrowMany, .int mroundOf, .int mroundFrom, .int mouts, .ref nm, .int mfromHour, .int mtoHour, .ref ns, .int mfrom, .int mto, .int msort, .int misFault, .int mdeep, .int mcoded, .int mlines, .ref nl, .ref nc, .ref nF, .ref np, .ref ntr, .ref nb, .int mbestCost, .ref nso, .ref nsi, .ref nit, .ref nsh, .ref nsf, .ref nss, .ref nrc, .int (nI jr), .int (nI jd), .int mnumber, .int mwhose, .int msize, .int misParted])), (nrc, .inl (G.2.1, 30, .inl fnrc))] (fun (r : Int32) (u : Nat × Int32 × (Nat → Int32)) => (True) ∧ (u.1 ≤ 30)) (fun u : Nat × Int32 × (Nat → Int32) => [(h0, .inr (12, [.ref nw, .ref nk, .int mhasKept, .ref nt, .int mtaped, .ref nr, .int mrowMany, .int mroundOf, .int mroundFrom, .int mouts, .ref nm, .int mfromHour, .int mtoHour, .ref ns, .int mfrom, .int mto, .int msort, .int misFault, .int mdeep, .int mcoded, .int mlines, .ref nl, .ref nc, .ref nF, .ref np, .ref ntr, .ref nb, .int mbestCost, .ref nso, .ref nsi, .ref nit, .ref nsh, .ref nsf, .ref nss, .ref nrc, .int (nI u.1), .int (nI jd), .int mnumber, .int mwhose, .int msize, .int u.2.1])), (nrc, .inl (G.2.1, 30, .inl u.2.2))]) := by
  refine MI.start (by decide +kernel) (Nat.le_of_ble_eq_true rfl) ?_
  intro p e s m below meth c A ls hC hK hP hD hS hA hl
  have hl : lv_has ls 5 [(0, .ref h0), (1, .int 4), (2, .int 1), (3, .int xx)] := hl
  obtain ⟨hx, hb, hr, hml, hB, hown, hlocks, hnm⟩ := id hC
  refine lv_iload_n hx hb dX12_bodyFrom_0 rfl (lv_at hl 1 rfl) ?_
  refine lv_istore (lv' := [(4, .int 4), (0, .ref h0), (1, .int 4), (2, .int 1), (3, .int xx)]) hx hb dX12_bodyFrom_1 hl (by decide) rfl (fun ls hl => ?_)
  refine lv_iload hx hb dX12_bodyFrom_3 (lv_at hl 0 rfl) ?_
  refine lv_iload_n hx hb dX12_bodyFrom_5 rfl (lv_at hl 3 rfl) ?_
  refine pS hC hK hl (m_hasOwn41 l G) si_X12_360 rfl rfl (Nat.le_of_ble_eq_true rfl) ⟨Nat.le_of_ble_eq_true rfl, Nat.le_of_ble_eq_true rfl⟩ ⟨by first | exact Nat.le_of_ble_eq_true rfl | exact Nat.zero_le _, by first | exact Nat.le_of_ble_eq_true rfl | exact Nat.zero_le _⟩ dX12_bodyFrom_6 (fun r5750 hr5750 => ?_)
  obtain rfl := hr5750
  refine lv_if_ne (tgt := 22) hx hb dX12_bodyFrom_9 (by decide) (fun c9 => absurd (by decide) c9) (fun _ => ?_)
  refine lv_iload hx hb dX12_bodyFrom_12 (lv_at hl 0 rfl) ?_
  refine pS hC hK hl (m_above4 l G) si_X12_348 rfl rfl (Nat.le_of_ble_eq_true rfl) ⟨Nat.le_of_ble_eq_true rfl, Nat.le_of_ble_eq_true rfl⟩ ⟨by first | exact Nat.le_of_ble_eq_true rfl | exact Nat.zero_le _, by first | exact Nat.le_of_ble_eq_true rfl | exact Nat.zero_le _⟩ dX12_bodyFrom_14 (fun r5752 hr5752 => ?_)
  obtain rfl := hr5752
  refine lv_istore (lv' := [(4, .int 0), (0, .ref h0), (1, .int 4), (2, .int 1), (3, .int xx)]) hx hb dX12_bodyFrom_17 hl (by decide) rfl (fun ls hl => ?_)
  refine lv_goto (tgt := 3) hx hb dX12_bodyFrom_19 (by decide) ?_
  refine lv_iload hx hb dX12_bodyFrom_3 (lv_at hl 0 rfl) ?_
  refine lv_iload_n hx hb dX12_bodyFrom_5 rfl (lv_at hl 3 rfl) ?_
  refine pS hC hK hl (m_hasOwn01 l G) si_X12_360 rfl rfl (Nat.le_of_ble_eq_true rfl) ⟨Nat.le_of_ble_eq_true rfl, Nat.le_of_ble_eq_true rfl⟩ ⟨by first | exact Nat.le_of_ble_eq_true rfl | exact Nat.zero_le _, by first | exact Nat.le_of_ble_eq_true rfl | exact Nat.zero_le _⟩ dX12_bodyFrom_6 (fun r5754 hr5754 => ?_)
  obtain rfl := hr5754
  refine lv_if_ne (tgt := 22) hx hb dX12_bodyFrom_9 (by decide) (fun _ => ?_) (fun c9 => absurd c9 (by decide))
  refine lv_aload_n hx hb dX12_bodyFrom_22 rfl (lv_at hl 1 rfl) ?_
  refine lv_iload hx hb dX12_bodyFrom_23 (lv_at hl 0 rfl) ?_
  refine lv_iload_n hx hb dX12_bodyFrom_25 rfl (lv_at hl 3 rfl) ?_
  refine lv_iload_n hx hb dX12_bodyFrom_26 rfl (lv_at hl 4 rfl) ?_
  refine iV (wr := []) hC hK hl hP hD hS hA (m_body01 l G h0 xx nw nk mhasKept nt mtaped nr mrowMany mroundOf mroundFrom mouts nm mfromHour mtoHour ns mfrom mto msort misFault mdeep mcoded mlines nl nc nF np ntr nb mbestCost nso nsi nit nsh nsf nss nrc jr jd mnumber mwhose msize misParted fnrc (by omega) (by omega)) si_X12_363 [0, 1] [] rfl rfl (by decide) rfl (by decide) (by decide) rfl rfl rfl rfl rfl (Nat.le_of_ble_eq_true rfl) ⟨Nat.le_of_ble_eq_true rfl, Nat.le_of_ble_eq_true rfl⟩ ⟨Nat.le_of_ble_eq_true rfl, Nat.le_of_ble_eq_true rfl⟩ dX12_bodyFrom_27 (fun r5756 u5757 H locs hr5756 hP hD hS => ?_)
  obtain ⟨jr15758, ip15759, gtrc5760⟩ := u5757
  try dsimp only at hr5756
  have hP : va_P G.1 vwCl [(h0, .inr (12, [.ref nw, .ref nk, .int mhasKept, .ref nt, .int mtaped, .ref nr, .int mrowMany, .int mroundOf, .int mroundFrom, .int mouts, .ref nm, .int mfromHour, .int mtoHour, .ref ns, .int mfrom, .int mto, .int msort, .int misFault, .int mdeep, .int mcoded, .int mlines, .ref nl, .ref nc, .ref nF, .ref np, .ref ntr, .ref nb, .int mbestCost, .ref nso, .ref nsi, .ref nit, .ref nsh, .ref nsf, .ref nss, .ref nrc, .int (nI jr15758), .int (nI jd), .int mnumber, .int mwhose, .int msize, .int ip15759])), (nrc, .inl (G.2.1, 30, .inl gtrc5760))] H := hP
  have hD : va_D A [(h0, .inr (12, [.ref nw, .ref nk, .int mhasKept, .ref nt, .int mtaped, .ref nr, .int mrowMany, .int mroundOf, .int mroundFrom, .int mouts, .ref nm, .int mfromHour, .int mtoHour, .ref ns, .int mfrom, .int mto, .int msort, .int misFault, .int mdeep, .int mcoded, .int mlines, .ref nl, .ref nc, .ref nF, .ref np, .ref ntr, .ref nb, .int mbestCost, .ref nso, .ref nsi, .ref nit, .ref nsh, .ref nsf, .ref nss, .ref nrc, .int (nI jr15758), .int (nI jd), .int mnumber, .int mwhose, .int msize, .int ip15759])), (nrc, .inl (G.2.1, 30, .inl gtrc5760))] := hD
  obtain ⟨hr5756, w5761⟩ := hr5756
  exact RI (v := r5756) hC hP hD hS [0, 1] (jr15758, ip15759, gtrc5760) rfl rfl (by decide) (⟨trivial, by omega⟩) rfl dX12_bodyFrom_30
set_option maxHeartbeats 4000000 in
set_option maxRecDepth 100000 in
theorem m_from51 (l : Launch) (G : GG) (h0 : Nat) (xx : Int32) (nw : Nat) (nk : Nat) (mhasKept : Int32) (nt : Nat) (mtaped : Int32) (nr : Nat) (mrowMany : Int32) (mroundOf : Int32) (mroundFrom : Int32) (mouts : Int32) (nm : Nat) (mfromHour : Int32) (mtoHour : Int32) (ns : Nat) (mfrom : Int32) (mto : Int32) (msort : Int32) (misFault : Int32) (mdeep : Int32) (mcoded : Int32) (mlines : Int32) (nl : Nat) (nc : Nat) (nF : Nat) (np : Nat) (ntr : Nat) (nb : Nat) (mbestCost : Int32) (nso : Nat) (nsi : Nat) (nit : Nat) (nsh : Nat) (nsf : Nat) (nss : Nat) (nrc : Nat) (jr : Nat) (jd : Nat) (mnumber : Int32) (mwhose : Int32) (msize : Int32) (misParted : Int32) (fnrc : Nat → Int32) (hjr : jr ≤ 30) (hjd : jd < 7) : MI l G yX12_bodyFrom cX12_bodyFrom 5 (some .int) 24 0 0 [.ref h0, .int 5, .int 1, .int xx] [(h0, .inr (12, [.ref nw, .ref nk, .int mhasKept, .ref nt, .int mtaped, .ref nr, .int mrowMany, .int mroundOf, .int mroundFrom, .int mouts, .ref nm, .int mfromHour, .int mtoHour, .ref ns, .int mfrom, .int mto, .int msort, .int misFault, .int mdeep, .int mcoded, .int mlines, .ref nl, .ref nc, .ref nF, .ref np, .ref ntr, .ref nb, .int mbestCost, .ref nso, .ref nsi, .ref nit, .ref nsh, .ref nsf, .ref nss, .ref nrc, .int (nI jr), .int (nI jd), .int mnumber, .int mwhose, .int msize, .int misParted])), (nrc, .inl (G.2.1, 30, .inl fnrc))] (fun (r : Int32) (u : Nat × Int32 × (Nat → Int32)) => (True) ∧ (u.1 ≤ 30)) (fun u : Nat × Int32 × (Nat → Int32) => [(h0, .inr (12, [.ref nw, .ref nk, .int mhasKept, .ref nt, .int mtaped, .ref nr, .int mrowMany, .int mroundOf, .int mroundFrom, .int mouts, .ref nm, .int mfromHour, .int mtoHour, .ref ns, .int mfrom, .int mto, .int msort, .int misFault, .int mdeep, .int mcoded, .int mlines, .ref nl, .ref nc, .ref nF, .ref np, .ref ntr, .ref nb, .int mbestCost, .ref nso, .ref nsi, .ref nit, .ref nsh, .ref nsf, .ref nss, .ref nrc, .int (nI u.1), .int (nI jd), .int mnumber, .int mwhose, .int msize, .int u.2.1])), (nrc, .inl (G.2.1, 30, .inl u.2.2))]) := by
  refine MI.start (by decide +kernel) (Nat.le_of_ble_eq_true rfl) ?_
  intro p e s m below meth c A ls hC hK hP hD hS hA hl
  have hl : lv_has ls 5 [(0, .ref h0), (1, .int 5), (2, .int 1), (3, .int xx)] := hl
  obtain ⟨hx, hb, hr, hml, hB, hown, hlocks, hnm⟩ := id hC
  refine lv_iload_n hx hb dX12_bodyFrom_0 rfl (lv_at hl 1 rfl) ?_
  refine lv_istore (lv' := [(4, .int 5), (0, .ref h0), (1, .int 5), (2, .int 1), (3, .int xx)]) hx hb dX12_bodyFrom_1 hl (by decide) rfl (fun ls hl => ?_)
  refine lv_iload hx hb dX12_bodyFrom_3 (lv_at hl 0 rfl) ?_
  refine lv_iload_n hx hb dX12_bodyFrom_5 rfl (lv_at hl 3 rfl) ?_
  refine pS hC hK hl (m_hasOwn51 l G) si_X12_360 rfl rfl (Nat.le_of_ble_eq_true rfl) ⟨Nat.le_of_ble_eq_true rfl, Nat.le_of_ble_eq_true rfl⟩ ⟨by first | exact Nat.le_of_ble_eq_true rfl | exact Nat.zero_le _, by first | exact Nat.le_of_ble_eq_true rfl | exact Nat.zero_le _⟩ dX12_bodyFrom_6 (fun r5762 hr5762 => ?_)
  obtain rfl := hr5762
  refine lv_if_ne (tgt := 22) hx hb dX12_bodyFrom_9 (by decide) (fun c9 => absurd (by decide) c9) (fun _ => ?_)
  refine lv_iload hx hb dX12_bodyFrom_12 (lv_at hl 0 rfl) ?_
  refine pS hC hK hl (m_above5 l G) si_X12_348 rfl rfl (Nat.le_of_ble_eq_true rfl) ⟨Nat.le_of_ble_eq_true rfl, Nat.le_of_ble_eq_true rfl⟩ ⟨by first | exact Nat.le_of_ble_eq_true rfl | exact Nat.zero_le _, by first | exact Nat.le_of_ble_eq_true rfl | exact Nat.zero_le _⟩ dX12_bodyFrom_14 (fun r5764 hr5764 => ?_)
  obtain rfl := hr5764
  refine lv_istore (lv' := [(4, .int 4), (0, .ref h0), (1, .int 5), (2, .int 1), (3, .int xx)]) hx hb dX12_bodyFrom_17 hl (by decide) rfl (fun ls hl => ?_)
  refine lv_goto (tgt := 3) hx hb dX12_bodyFrom_19 (by decide) ?_
  refine lv_iload hx hb dX12_bodyFrom_3 (lv_at hl 0 rfl) ?_
  refine lv_iload_n hx hb dX12_bodyFrom_5 rfl (lv_at hl 3 rfl) ?_
  refine pS hC hK hl (m_hasOwn41 l G) si_X12_360 rfl rfl (Nat.le_of_ble_eq_true rfl) ⟨Nat.le_of_ble_eq_true rfl, Nat.le_of_ble_eq_true rfl⟩ ⟨by first | exact Nat.le_of_ble_eq_true rfl | exact Nat.zero_le _, by first | exact Nat.le_of_ble_eq_true rfl | exact Nat.zero_le _⟩ dX12_bodyFrom_6 (fun r5766 hr5766 => ?_)
  obtain rfl := hr5766
  refine lv_if_ne (tgt := 22) hx hb dX12_bodyFrom_9 (by decide) (fun c9 => absurd (by decide) c9) (fun _ => ?_)
  refine lv_iload hx hb dX12_bodyFrom_12 (lv_at hl 0 rfl) ?_
  refine pS hC hK hl (m_above4 l G) si_X12_348 rfl rfl (Nat.le_of_ble_eq_true rfl) ⟨Nat.le_of_ble_eq_true rfl, Nat.le_of_ble_eq_true rfl⟩ ⟨by first | exact Nat.le_of_ble_eq_true rfl | exact Nat.zero_le _, by first | exact Nat.le_of_ble_eq_true rfl | exact Nat.zero_le _⟩ dX12_bodyFrom_14 (fun r5768 hr5768 => ?_)
  obtain rfl := hr5768
  refine lv_istore (lv' := [(4, .int 0), (0, .ref h0), (1, .int 5), (2, .int 1), (3, .int xx)]) hx hb dX12_bodyFrom_17 hl (by decide) rfl (fun ls hl => ?_)
  refine lv_goto (tgt := 3) hx hb dX12_bodyFrom_19 (by decide) ?_
  refine lv_iload hx hb dX12_bodyFrom_3 (lv_at hl 0 rfl) ?_
  refine lv_iload_n hx hb dX12_bodyFrom_5 rfl (lv_at hl 3 rfl) ?_
  refine pS hC hK hl (m_hasOwn01 l G) si_X12_360 rfl rfl (Nat.le_of_ble_eq_true rfl) ⟨Nat.le_of_ble_eq_true rfl, Nat.le_of_ble_eq_true rfl⟩ ⟨by first | exact Nat.le_of_ble_eq_true rfl | exact Nat.zero_le _, by first | exact Nat.le_of_ble_eq_true rfl | exact Nat.zero_le _⟩ dX12_bodyFrom_6 (fun r5770 hr5770 => ?_)
  obtain rfl := hr5770
  refine lv_if_ne (tgt := 22) hx hb dX12_bodyFrom_9 (by decide) (fun _ => ?_) (fun c9 => absurd c9 (by decide))
  refine lv_aload_n hx hb dX12_bodyFrom_22 rfl (lv_at hl 1 rfl) ?_
  refine lv_iload hx hb dX12_bodyFrom_23 (lv_at hl 0 rfl) ?_
  refine lv_iload_n hx hb dX12_bodyFrom_25 rfl (lv_at hl 3 rfl) ?_
  refine lv_iload_n hx hb dX12_bodyFrom_26 rfl (lv_at hl 4 rfl) ?_
  refine iV (wr := []) hC hK hl hP hD hS hA (m_body01 l G h0 xx nw nk mhasKept nt mtaped nr mrowMany mroundOf mroundFrom mouts nm mfromHour mtoHour ns mfrom mto msort misFault mdeep mcoded mlines nl nc nF np ntr nb mbestCost nso nsi nit nsh nsf nss nrc jr jd mnumber mwhose msize misParted fnrc (by omega) (by omega)) si_X12_363 [0, 1] [] rfl rfl (by decide) rfl (by decide) (by decide) rfl rfl rfl rfl rfl (Nat.le_of_ble_eq_true rfl) ⟨Nat.le_of_ble_eq_true rfl, Nat.le_of_ble_eq_true rfl⟩ ⟨Nat.le_of_ble_eq_true rfl, Nat.le_of_ble_eq_true rfl⟩ dX12_bodyFrom_27 (fun r5772 u5773 H locs hr5772 hP hD hS => ?_)
  obtain ⟨jr15774, ip15775, gtrc5776⟩ := u5773
  try dsimp only at hr5772
  have hP : va_P G.1 vwCl [(h0, .inr (12, [.ref nw, .ref nk, .int mhasKept, .ref nt, .int mtaped, .ref nr, .int mrowMany, .int mroundOf, .int mroundFrom, .int mouts, .ref nm, .int mfromHour, .int mtoHour, .ref ns, .int mfrom, .int mto, .int msort, .int misFault, .int mdeep, .int mcoded, .int mlines, .ref nl, .ref nc, .ref nF, .ref np, .ref ntr, .ref nb, .int mbestCost, .ref nso, .ref nsi, .ref nit, .ref nsh, .ref nsf, .ref nss, .ref nrc, .int (nI jr15774), .int (nI jd), .int mnumber, .int mwhose, .int msize, .int ip15775])), (nrc, .inl (G.2.1, 30, .inl gtrc5776))] H := hP
  have hD : va_D A [(h0, .inr (12, [.ref nw, .ref nk, .int mhasKept, .ref nt, .int mtaped, .ref nr, .int mrowMany, .int mroundOf, .int mroundFrom, .int mouts, .ref nm, .int mfromHour, .int mtoHour, .ref ns, .int mfrom, .int mto, .int msort, .int misFault, .int mdeep, .int mcoded, .int mlines, .ref nl, .ref nc, .ref nF, .ref np, .ref ntr, .ref nb, .int mbestCost, .ref nso, .ref nsi, .ref nit, .ref nsh, .ref nsf, .ref nss, .ref nrc, .int (nI jr15774), .int (nI jd), .int mnumber, .int mwhose, .int msize, .int ip15775])), (nrc, .inl (G.2.1, 30, .inl gtrc5776))] := hD
  obtain ⟨hr5772, w5777⟩ := hr5772
  exact RI (v := r5772) hC hP hD hS [0, 1] (jr15774, ip15775, gtrc5776) rfl rfl (by decide) (⟨trivial, by omega⟩) rfl dX12_bodyFrom_30
set_option maxHeartbeats 4000000 in
set_option maxRecDepth 100000 in
theorem m_from61 (l : Launch) (G : GG) (h0 : Nat) (xx : Int32) (nw : Nat) (nk : Nat) (mhasKept : Int32) (nt : Nat) (mtaped : Int32) (nr : Nat) (mrowMany : Int32) (mroundOf : Int32) (mroundFrom : Int32) (mouts : Int32) (nm : Nat) (mfromHour : Int32) (mtoHour : Int32) (ns : Nat) (mfrom : Int32) (mto : Int32) (msort : Int32) (misFault : Int32) (mdeep : Int32) (mcoded : Int32) (mlines : Int32) (nl : Nat) (nc : Nat) (nF : Nat) (np : Nat) (ntr : Nat) (nb : Nat) (mbestCost : Int32) (nso : Nat) (nsi : Nat) (nit : Nat) (nsh : Nat) (nsf : Nat) (nss : Nat) (nrc : Nat) (jr : Nat) (jd : Nat) (mnumber : Int32) (mwhose : Int32) (msize : Int32) (misParted : Int32) (fnrc : Nat → Int32) (hjr : jr ≤ 30) (hjd : jd < 7) : MI l G yX12_bodyFrom cX12_bodyFrom 5 (some .int) 24 0 0 [.ref h0, .int 6, .int 1, .int xx] [(h0, .inr (12, [.ref nw, .ref nk, .int mhasKept, .ref nt, .int mtaped, .ref nr, .int mrowMany, .int mroundOf, .int mroundFrom, .int mouts, .ref nm, .int mfromHour, .int mtoHour, .ref ns, .int mfrom, .int mto, .int msort, .int misFault, .int mdeep, .int mcoded, .int mlines, .ref nl, .ref nc, .ref nF, .ref np, .ref ntr, .ref nb, .int mbestCost, .ref nso, .ref nsi, .ref nit, .ref nsh, .ref nsf, .ref nss, .ref nrc, .int (nI jr), .int (nI jd), .int mnumber, .int mwhose, .int msize, .int misParted])), (nrc, .inl (G.2.1, 30, .inl fnrc))] (fun (r : Int32) (u : Nat × Int32 × (Nat → Int32)) => (True) ∧ (u.1 ≤ 30)) (fun u : Nat × Int32 × (Nat → Int32) => [(h0, .inr (12, [.ref nw, .ref nk, .int mhasKept, .ref nt, .int mtaped, .ref nr, .int mrowMany, .int mroundOf, .int mroundFrom, .int mouts, .ref nm, .int mfromHour, .int mtoHour, .ref ns, .int mfrom, .int mto, .int msort, .int misFault, .int mdeep, .int mcoded, .int mlines, .ref nl, .ref nc, .ref nF, .ref np, .ref ntr, .ref nb, .int mbestCost, .ref nso, .ref nsi, .ref nit, .ref nsh, .ref nsf, .ref nss, .ref nrc, .int (nI u.1), .int (nI jd), .int mnumber, .int mwhose, .int msize, .int u.2.1])), (nrc, .inl (G.2.1, 30, .inl u.2.2))]) := by
  refine MI.start (by decide +kernel) (Nat.le_of_ble_eq_true rfl) ?_
  intro p e s m below meth c A ls hC hK hP hD hS hA hl
  have hl : lv_has ls 5 [(0, .ref h0), (1, .int 6), (2, .int 1), (3, .int xx)] := hl
  obtain ⟨hx, hb, hr, hml, hB, hown, hlocks, hnm⟩ := id hC
  refine lv_iload_n hx hb dX12_bodyFrom_0 rfl (lv_at hl 1 rfl) ?_
  refine lv_istore (lv' := [(4, .int 6), (0, .ref h0), (1, .int 6), (2, .int 1), (3, .int xx)]) hx hb dX12_bodyFrom_1 hl (by decide) rfl (fun ls hl => ?_)
  refine lv_iload hx hb dX12_bodyFrom_3 (lv_at hl 0 rfl) ?_
  refine lv_iload_n hx hb dX12_bodyFrom_5 rfl (lv_at hl 3 rfl) ?_
  refine pS hC hK hl (m_hasOwn61 l G) si_X12_360 rfl rfl (Nat.le_of_ble_eq_true rfl) ⟨Nat.le_of_ble_eq_true rfl, Nat.le_of_ble_eq_true rfl⟩ ⟨by first | exact Nat.le_of_ble_eq_true rfl | exact Nat.zero_le _, by first | exact Nat.le_of_ble_eq_true rfl | exact Nat.zero_le _⟩ dX12_bodyFrom_6 (fun r5778 hr5778 => ?_)
  obtain rfl := hr5778
  refine lv_if_ne (tgt := 22) hx hb dX12_bodyFrom_9 (by decide) (fun c9 => absurd (by decide) c9) (fun _ => ?_)
  refine lv_iload hx hb dX12_bodyFrom_12 (lv_at hl 0 rfl) ?_
  refine pS hC hK hl (m_above6 l G) si_X12_348 rfl rfl (Nat.le_of_ble_eq_true rfl) ⟨Nat.le_of_ble_eq_true rfl, Nat.le_of_ble_eq_true rfl⟩ ⟨by first | exact Nat.le_of_ble_eq_true rfl | exact Nat.zero_le _, by first | exact Nat.le_of_ble_eq_true rfl | exact Nat.zero_le _⟩ dX12_bodyFrom_14 (fun r5780 hr5780 => ?_)
  obtain rfl := hr5780
  refine lv_istore (lv' := [(4, .int 0), (0, .ref h0), (1, .int 6), (2, .int 1), (3, .int xx)]) hx hb dX12_bodyFrom_17 hl (by decide) rfl (fun ls hl => ?_)
  refine lv_goto (tgt := 3) hx hb dX12_bodyFrom_19 (by decide) ?_
  refine lv_iload hx hb dX12_bodyFrom_3 (lv_at hl 0 rfl) ?_
  refine lv_iload_n hx hb dX12_bodyFrom_5 rfl (lv_at hl 3 rfl) ?_
  refine pS hC hK hl (m_hasOwn01 l G) si_X12_360 rfl rfl (Nat.le_of_ble_eq_true rfl) ⟨Nat.le_of_ble_eq_true rfl, Nat.le_of_ble_eq_true rfl⟩ ⟨by first | exact Nat.le_of_ble_eq_true rfl | exact Nat.zero_le _, by first | exact Nat.le_of_ble_eq_true rfl | exact Nat.zero_le _⟩ dX12_bodyFrom_6 (fun r5782 hr5782 => ?_)
  obtain rfl := hr5782
  refine lv_if_ne (tgt := 22) hx hb dX12_bodyFrom_9 (by decide) (fun _ => ?_) (fun c9 => absurd c9 (by decide))
  refine lv_aload_n hx hb dX12_bodyFrom_22 rfl (lv_at hl 1 rfl) ?_
  refine lv_iload hx hb dX12_bodyFrom_23 (lv_at hl 0 rfl) ?_
  refine lv_iload_n hx hb dX12_bodyFrom_25 rfl (lv_at hl 3 rfl) ?_
  refine lv_iload_n hx hb dX12_bodyFrom_26 rfl (lv_at hl 4 rfl) ?_
  refine iV (wr := []) hC hK hl hP hD hS hA (m_body01 l G h0 xx nw nk mhasKept nt mtaped nr mrowMany mroundOf mroundFrom mouts nm mfromHour mtoHour ns mfrom mto msort misFault mdeep mcoded mlines nl nc nF np ntr nb mbestCost nso nsi nit nsh nsf nss nrc jr jd mnumber mwhose msize misParted fnrc (by omega) (by omega)) si_X12_363 [0, 1] [] rfl rfl (by decide) rfl (by decide) (by decide) rfl rfl rfl rfl rfl (Nat.le_of_ble_eq_true rfl) ⟨Nat.le_of_ble_eq_true rfl, Nat.le_of_ble_eq_true rfl⟩ ⟨Nat.le_of_ble_eq_true rfl, Nat.le_of_ble_eq_true rfl⟩ dX12_bodyFrom_27 (fun r5784 u5785 H locs hr5784 hP hD hS => ?_)
  obtain ⟨jr15786, ip15787, gtrc5788⟩ := u5785
  try dsimp only at hr5784
  have hP : va_P G.1 vwCl [(h0, .inr (12, [.ref nw, .ref nk, .int mhasKept, .ref nt, .int mtaped, .ref nr, .int mrowMany, .int mroundOf, .int mroundFrom, .int mouts, .ref nm, .int mfromHour, .int mtoHour, .ref ns, .int mfrom, .int mto, .int msort, .int misFault, .int mdeep, .int mcoded, .int mlines, .ref nl, .ref nc, .ref nF, .ref np, .ref ntr, .ref nb, .int mbestCost, .ref nso, .ref nsi, .ref nit, .ref nsh, .ref nsf, .ref nss, .ref nrc, .int (nI jr15786), .int (nI jd), .int mnumber, .int mwhose, .int msize, .int ip15787])), (nrc, .inl (G.2.1, 30, .inl gtrc5788))] H := hP
  have hD : va_D A [(h0, .inr (12, [.ref nw, .ref nk, .int mhasKept, .ref nt, .int mtaped, .ref nr, .int mrowMany, .int mroundOf, .int mroundFrom, .int mouts, .ref nm, .int mfromHour, .int mtoHour, .ref ns, .int mfrom, .int mto, .int msort, .int misFault, .int mdeep, .int mcoded, .int mlines, .ref nl, .ref nc, .ref nF, .ref np, .ref ntr, .ref nb, .int mbestCost, .ref nso, .ref nsi, .ref nit, .ref nsh, .ref nsf, .ref nss, .ref nrc, .int (nI jr15786), .int (nI jd), .int mnumber, .int mwhose, .int msize, .int ip15787])), (nrc, .inl (G.2.1, 30, .inl gtrc5788))] := hD
  obtain ⟨hr5784, w5789⟩ := hr5784
  exact RI (v := r5784) hC hP hD hS [0, 1] (jr15786, ip15787, gtrc5788) rfl rfl (by decide) (⟨trivial, by omega⟩) rfl dX12_bodyFrom_30
set_option maxHeartbeats 4000000 in
set_option maxRecDepth 100000 in
theorem m_dealt1 (l : Launch) (G : GG) (h0 : Nat) (xx : Int32) (nw : Nat) (nk : Nat) (mhasKept : Int32) (nt : Nat) (mtaped : Int32) (nr : Nat) (mrowMany : Int32) (mroundOf : Int32) (mroundFrom : Int32) (mouts : Int32) (nm : Nat) (mfromHour : Int32) (mtoHour : Int32) (ns : Nat) (mfrom : Int32) (mto : Int32) (msort : Int32) (misFault : Int32) (mdeep : Int32) (mcoded : Int32) (mlines : Int32) (nl : Nat) (nc : Nat) (nF : Nat) (np : Nat) (ntr : Nat) (nb : Nat) (mbestCost : Int32) (nso : Nat) (nsi : Nat) (nit : Nat) (nsh : Nat) (nsf : Nat) (nss : Nat) (nrc : Nat) (jr : Nat) (jd : Nat) (mnumber : Int32) (mwhose : Int32) (msize : Int32) (misParted : Int32) (fnrc : Nat → Int32) (hjr : jr ≤ 30) (hjd : jd < 7) : MI l G yX12_dealt cX12_dealt 3 (some .int) 26 0 0 [.ref h0, .int 1, .int xx] [(h0, .inr (12, [.ref nw, .ref nk, .int mhasKept, .ref nt, .int mtaped, .ref nr, .int mrowMany, .int mroundOf, .int mroundFrom, .int mouts, .ref nm, .int mfromHour, .int mtoHour, .ref ns, .int mfrom, .int mto, .int msort, .int misFault, .int mdeep, .int mcoded, .int mlines, .ref nl, .ref nc, .ref nF, .ref np, .ref ntr, .ref nb, .int mbestCost, .ref nso, .ref nsi, .ref nit, .ref nsh, .ref nsf, .ref nss, .ref nrc, .int (nI jr), .int (nI jd), .int mnumber, .int mwhose, .int msize, .int misParted])), (nrc, .inl (G.2.1, 30, .inl fnrc))] (fun (r : Int32) (u : Nat × Int32 × (Nat → Int32)) => (True) ∧ (u.1 ≤ 30)) (fun u : Nat × Int32 × (Nat → Int32) => [(h0, .inr (12, [.ref nw, .ref nk, .int mhasKept, .ref nt, .int mtaped, .ref nr, .int mrowMany, .int mroundOf, .int mroundFrom, .int mouts, .ref nm, .int mfromHour, .int mtoHour, .ref ns, .int mfrom, .int mto, .int msort, .int misFault, .int mdeep, .int mcoded, .int mlines, .ref nl, .ref nc, .ref nF, .ref np, .ref ntr, .ref nb, .int mbestCost, .ref nso, .ref nsi, .ref nit, .ref nsh, .ref nsf, .ref nss, .ref nrc, .int (nI u.1), .int (nI jd), .int mnumber, .int mwhose, .int msize, .int u.2.1])), (nrc, .inl (G.2.1, 30, .inl u.2.2))]) := by
  refine MI.start (by decide +kernel) (Nat.le_of_ble_eq_true rfl) ?_
  intro p e s m below meth c A ls hC hK hP hD hS hA hl
  have hl : lv_has ls 3 [(0, .ref h0), (1, .int 1), (2, .int xx)] := hl
  obtain ⟨hx, hb, hr, hml, hB, hown, hlocks, hnm⟩ := id hC
  refine lv_aload_n hx hb dX12_dealt_0 rfl (lv_at hl 0 rfl) ?_
  refine lv_aload_n hx hb dX12_dealt_1 rfl (lv_at hl 0 rfl) ?_
  refine gf_X12_354 hC rfl hK hP 0 rfl rfl dX12_dealt_2 ?_
  refine lv_iload_n hx hb dX12_dealt_5 rfl (lv_at hl 1 rfl) ?_
  refine lv_iload_n hx hb dX12_dealt_6 rfl (lv_at hl 2 rfl) ?_
  rcases (show jd = 0 ∨ jd = 1 ∨ jd = 2 ∨ jd = 3 ∨ jd = 4 ∨ jd = 5 ∨ jd = 6 by omega) with rfl | rfl | rfl | rfl | rfl | rfl | rfl
  · refine iV (wr := []) hC hK hl hP hD hS hA (m_from01 l G h0 xx nw nk mhasKept nt mtaped nr mrowMany mroundOf mroundFrom mouts nm mfromHour mtoHour ns mfrom mto msort misFault mdeep mcoded mlines nl nc nF np ntr nb mbestCost nso nsi nit nsh nsf nss nrc jr 0 mnumber mwhose msize misParted fnrc (by omega) (by omega)) si_X12_357 [0, 1] [] rfl rfl (by decide) rfl (by decide) (by decide) rfl rfl rfl rfl rfl (Nat.le_of_ble_eq_true rfl) ⟨Nat.le_of_ble_eq_true rfl, Nat.le_of_ble_eq_true rfl⟩ ⟨Nat.le_of_ble_eq_true rfl, Nat.le_of_ble_eq_true rfl⟩ dX12_dealt_7 (fun r5790 u5791 H locs hr5790 hP hD hS => ?_)
    obtain ⟨jr15792, ip15793, gtrc5794⟩ := u5791
    try dsimp only at hr5790
    have hP : va_P G.1 vwCl [(h0, .inr (12, [.ref nw, .ref nk, .int mhasKept, .ref nt, .int mtaped, .ref nr, .int mrowMany, .int mroundOf, .int mroundFrom, .int mouts, .ref nm, .int mfromHour, .int mtoHour, .ref ns, .int mfrom, .int mto, .int msort, .int misFault, .int mdeep, .int mcoded, .int mlines, .ref nl, .ref nc, .ref nF, .ref np, .ref ntr, .ref nb, .int mbestCost, .ref nso, .ref nsi, .ref nit, .ref nsh, .ref nsf, .ref nss, .ref nrc, .int (nI jr15792), .int 0, .int mnumber, .int mwhose, .int msize, .int ip15793])), (nrc, .inl (G.2.1, 30, .inl gtrc5794))] H := hP
    have hD : va_D A [(h0, .inr (12, [.ref nw, .ref nk, .int mhasKept, .ref nt, .int mtaped, .ref nr, .int mrowMany, .int mroundOf, .int mroundFrom, .int mouts, .ref nm, .int mfromHour, .int mtoHour, .ref ns, .int mfrom, .int mto, .int msort, .int misFault, .int mdeep, .int mcoded, .int mlines, .ref nl, .ref nc, .ref nF, .ref np, .ref ntr, .ref nb, .int mbestCost, .ref nso, .ref nsi, .ref nit, .ref nsh, .ref nsf, .ref nss, .ref nrc, .int (nI jr15792), .int 0, .int mnumber, .int mwhose, .int msize, .int ip15793])), (nrc, .inl (G.2.1, 30, .inl gtrc5794))] := hD
    obtain ⟨hr5790, w5795⟩ := hr5790
    exact RI (v := r5790) hC hP hD hS [0, 1] (jr15792, ip15793, gtrc5794) rfl rfl (by decide) (⟨trivial, by omega⟩) rfl dX12_dealt_10
  · refine iV (wr := []) hC hK hl hP hD hS hA (m_from11 l G h0 xx nw nk mhasKept nt mtaped nr mrowMany mroundOf mroundFrom mouts nm mfromHour mtoHour ns mfrom mto msort misFault mdeep mcoded mlines nl nc nF np ntr nb mbestCost nso nsi nit nsh nsf nss nrc jr 1 mnumber mwhose msize misParted fnrc (by omega) (by omega)) si_X12_357 [0, 1] [] rfl rfl (by decide) rfl (by decide) (by decide) rfl rfl rfl rfl rfl (Nat.le_of_ble_eq_true rfl) ⟨Nat.le_of_ble_eq_true rfl, Nat.le_of_ble_eq_true rfl⟩ ⟨Nat.le_of_ble_eq_true rfl, Nat.le_of_ble_eq_true rfl⟩ dX12_dealt_7 (fun r5796 u5797 H locs hr5796 hP hD hS => ?_)
    obtain ⟨jr15798, ip15799, gtrc5800⟩ := u5797
    try dsimp only at hr5796
    have hP : va_P G.1 vwCl [(h0, .inr (12, [.ref nw, .ref nk, .int mhasKept, .ref nt, .int mtaped, .ref nr, .int mrowMany, .int mroundOf, .int mroundFrom, .int mouts, .ref nm, .int mfromHour, .int mtoHour, .ref ns, .int mfrom, .int mto, .int msort, .int misFault, .int mdeep, .int mcoded, .int mlines, .ref nl, .ref nc, .ref nF, .ref np, .ref ntr, .ref nb, .int mbestCost, .ref nso, .ref nsi, .ref nit, .ref nsh, .ref nsf, .ref nss, .ref nrc, .int (nI jr15798), .int 1, .int mnumber, .int mwhose, .int msize, .int ip15799])), (nrc, .inl (G.2.1, 30, .inl gtrc5800))] H := hP
    have hD : va_D A [(h0, .inr (12, [.ref nw, .ref nk, .int mhasKept, .ref nt, .int mtaped, .ref nr, .int mrowMany, .int mroundOf, .int mroundFrom, .int mouts, .ref nm, .int mfromHour, .int mtoHour, .ref ns, .int mfrom, .int mto, .int msort, .int misFault, .int mdeep, .int mcoded, .int mlines, .ref nl, .ref nc, .ref nF, .ref np, .ref ntr, .ref nb, .int mbestCost, .ref nso, .ref nsi, .ref nit, .ref nsh, .ref nsf, .ref nss, .ref nrc, .int (nI jr15798), .int 1, .int mnumber, .int mwhose, .int msize, .int ip15799])), (nrc, .inl (G.2.1, 30, .inl gtrc5800))] := hD
    obtain ⟨hr5796, w5801⟩ := hr5796
    exact RI (v := r5796) hC hP hD hS [0, 1] (jr15798, ip15799, gtrc5800) rfl rfl (by decide) (⟨trivial, by omega⟩) rfl dX12_dealt_10
  · refine iV (wr := []) hC hK hl hP hD hS hA (m_from21 l G h0 xx nw nk mhasKept nt mtaped nr mrowMany mroundOf mroundFrom mouts nm mfromHour mtoHour ns mfrom mto msort misFault mdeep mcoded mlines nl nc nF np ntr nb mbestCost nso nsi nit nsh nsf nss nrc jr 2 mnumber mwhose msize misParted fnrc (by omega) (by omega)) si_X12_357 [0, 1] [] rfl rfl (by decide) rfl (by decide) (by decide) rfl rfl rfl rfl rfl (Nat.le_of_ble_eq_true rfl) ⟨Nat.le_of_ble_eq_true rfl, Nat.le_of_ble_eq_true rfl⟩ ⟨Nat.le_of_ble_eq_true rfl, Nat.le_of_ble_eq_true rfl⟩ dX12_dealt_7 (fun r5802 u5803 H locs hr5802 hP hD hS => ?_)
    obtain ⟨jr15804, ip15805, gtrc5806⟩ := u5803
    try dsimp only at hr5802
    have hP : va_P G.1 vwCl [(h0, .inr (12, [.ref nw, .ref nk, .int mhasKept, .ref nt, .int mtaped, .ref nr, .int mrowMany, .int mroundOf, .int mroundFrom, .int mouts, .ref nm, .int mfromHour, .int mtoHour, .ref ns, .int mfrom, .int mto, .int msort, .int misFault, .int mdeep, .int mcoded, .int mlines, .ref nl, .ref nc, .ref nF, .ref np, .ref ntr, .ref nb, .int mbestCost, .ref nso, .ref nsi, .ref nit, .ref nsh, .ref nsf, .ref nss, .ref nrc, .int (nI jr15804), .int 2, .int mnumber, .int mwhose, .int msize, .int ip15805])), (nrc, .inl (G.2.1, 30, .inl gtrc5806))] H := hP
    have hD : va_D A [(h0, .inr (12, [.ref nw, .ref nk, .int mhasKept, .ref nt, .int mtaped, .ref nr, .int mrowMany, .int mroundOf, .int mroundFrom, .int mouts, .ref nm, .int mfromHour, .int mtoHour, .ref ns, .int mfrom, .int mto, .int msort, .int misFault, .int mdeep, .int mcoded, .int mlines, .ref nl, .ref nc, .ref nF, .ref np, .ref ntr, .ref nb, .int mbestCost, .ref nso, .ref nsi, .ref nit, .ref nsh, .ref nsf, .ref nss, .ref nrc, .int (nI jr15804), .int 2, .int mnumber, .int mwhose, .int msize, .int ip15805])), (nrc, .inl (G.2.1, 30, .inl gtrc5806))] := hD
    obtain ⟨hr5802, w5807⟩ := hr5802
    exact RI (v := r5802) hC hP hD hS [0, 1] (jr15804, ip15805, gtrc5806) rfl rfl (by decide) (⟨trivial, by omega⟩) rfl dX12_dealt_10
  · refine iV (wr := []) hC hK hl hP hD hS hA (m_from31 l G h0 xx nw nk mhasKept nt mtaped nr mrowMany mroundOf mroundFrom mouts nm mfromHour mtoHour ns mfrom mto msort misFault mdeep mcoded mlines nl nc nF np ntr nb mbestCost nso nsi nit nsh nsf nss nrc jr 3 mnumber mwhose msize misParted fnrc (by omega) (by omega)) si_X12_357 [0, 1] [] rfl rfl (by decide) rfl (by decide) (by decide) rfl rfl rfl rfl rfl (Nat.le_of_ble_eq_true rfl) ⟨Nat.le_of_ble_eq_true rfl, Nat.le_of_ble_eq_true rfl⟩ ⟨Nat.le_of_ble_eq_true rfl, Nat.le_of_ble_eq_true rfl⟩ dX12_dealt_7 (fun r5808 u5809 H locs hr5808 hP hD hS => ?_)
    obtain ⟨jr15810, ip15811, gtrc5812⟩ := u5809
    try dsimp only at hr5808
    have hP : va_P G.1 vwCl [(h0, .inr (12, [.ref nw, .ref nk, .int mhasKept, .ref nt, .int mtaped, .ref nr, .int mrowMany, .int mroundOf, .int mroundFrom, .int mouts, .ref nm, .int mfromHour, .int mtoHour, .ref ns, .int mfrom, .int mto, .int msort, .int misFault, .int mdeep, .int mcoded, .int mlines, .ref nl, .ref nc, .ref nF, .ref np, .ref ntr, .ref nb, .int mbestCost, .ref nso, .ref nsi, .ref nit, .ref nsh, .ref nsf, .ref nss, .ref nrc, .int (nI jr15810), .int 3, .int mnumber, .int mwhose, .int msize, .int ip15811])), (nrc, .inl (G.2.1, 30, .inl gtrc5812))] H := hP
    have hD : va_D A [(h0, .inr (12, [.ref nw, .ref nk, .int mhasKept, .ref nt, .int mtaped, .ref nr, .int mrowMany, .int mroundOf, .int mroundFrom, .int mouts, .ref nm, .int mfromHour, .int mtoHour, .ref ns, .int mfrom, .int mto, .int msort, .int misFault, .int mdeep, .int mcoded, .int mlines, .ref nl, .ref nc, .ref nF, .ref np, .ref ntr, .ref nb, .int mbestCost, .ref nso, .ref nsi, .ref nit, .ref nsh, .ref nsf, .ref nss, .ref nrc, .int (nI jr15810), .int 3, .int mnumber, .int mwhose, .int msize, .int ip15811])), (nrc, .inl (G.2.1, 30, .inl gtrc5812))] := hD
    obtain ⟨hr5808, w5813⟩ := hr5808
    exact RI (v := r5808) hC hP hD hS [0, 1] (jr15810, ip15811, gtrc5812) rfl rfl (by decide) (⟨trivial, by omega⟩) rfl dX12_dealt_10
  · refine iV (wr := []) hC hK hl hP hD hS hA (m_from41 l G h0 xx nw nk mhasKept nt mtaped nr mrowMany mroundOf mroundFrom mouts nm mfromHour mtoHour ns mfrom mto msort misFault mdeep mcoded mlines nl nc nF np ntr nb mbestCost nso nsi nit nsh nsf nss nrc jr 4 mnumber mwhose msize misParted fnrc (by omega) (by omega)) si_X12_357 [0, 1] [] rfl rfl (by decide) rfl (by decide) (by decide) rfl rfl rfl rfl rfl (Nat.le_of_ble_eq_true rfl) ⟨Nat.le_of_ble_eq_true rfl, Nat.le_of_ble_eq_true rfl⟩ ⟨Nat.le_of_ble_eq_true rfl, Nat.le_of_ble_eq_true rfl⟩ dX12_dealt_7 (fun r5814 u5815 H locs hr5814 hP hD hS => ?_)
    obtain ⟨jr15816, ip15817, gtrc5818⟩ := u5815
    try dsimp only at hr5814
    have hP : va_P G.1 vwCl [(h0, .inr (12, [.ref nw, .ref nk, .int mhasKept, .ref nt, .int mtaped, .ref nr, .int mrowMany, .int mroundOf, .int mroundFrom, .int mouts, .ref nm, .int mfromHour, .int mtoHour, .ref ns, .int mfrom, .int mto, .int msort, .int misFault, .int mdeep, .int mcoded, .int mlines, .ref nl, .ref nc, .ref nF, .ref np, .ref ntr, .ref nb, .int mbestCost, .ref nso, .ref nsi, .ref nit, .ref nsh, .ref nsf, .ref nss, .ref nrc, .int (nI jr15816), .int 4, .int mnumber, .int mwhose, .int msize, .int ip15817])), (nrc, .inl (G.2.1, 30, .inl gtrc5818))] H := hP
    have hD : va_D A [(h0, .inr (12, [.ref nw, .ref nk, .int mhasKept, .ref nt, .int mtaped, .ref nr, .int mrowMany, .int mroundOf, .int mroundFrom, .int mouts, .ref nm, .int mfromHour, .int mtoHour, .ref ns, .int mfrom, .int mto, .int msort, .int misFault, .int mdeep, .int mcoded, .int mlines, .ref nl, .ref nc, .ref nF, .ref np, .ref ntr, .ref nb, .int mbestCost, .ref nso, .ref nsi, .ref nit, .ref nsh, .ref nsf, .ref nss, .ref nrc, .int (nI jr15816), .int 4, .int mnumber, .int mwhose, .int msize, .int ip15817])), (nrc, .inl (G.2.1, 30, .inl gtrc5818))] := hD
    obtain ⟨hr5814, w5819⟩ := hr5814
    exact RI (v := r5814) hC hP hD hS [0, 1] (jr15816, ip15817, gtrc5818) rfl rfl (by decide) (⟨trivial, by omega⟩) rfl dX12_dealt_10
  · refine iV (wr := []) hC hK hl hP hD hS hA (m_from51 l G h0 xx nw nk mhasKept nt mtaped nr mrowMany mroundOf mroundFrom mouts nm mfromHour mtoHour ns mfrom mto msort misFault mdeep mcoded mlines nl nc nF np ntr nb mbestCost nso nsi nit nsh nsf nss nrc jr 5 mnumber mwhose msize misParted fnrc (by omega) (by omega)) si_X12_357 [0, 1] [] rfl rfl (by decide) rfl (by decide) (by decide) rfl rfl rfl rfl rfl (Nat.le_of_ble_eq_true rfl) ⟨Nat.le_of_ble_eq_true rfl, Nat.le_of_ble_eq_true rfl⟩ ⟨Nat.le_of_ble_eq_true rfl, Nat.le_of_ble_eq_true rfl⟩ dX12_dealt_7 (fun r5820 u5821 H locs hr5820 hP hD hS => ?_)
    obtain ⟨jr15822, ip15823, gtrc5824⟩ := u5821
    try dsimp only at hr5820
    have hP : va_P G.1 vwCl [(h0, .inr (12, [.ref nw, .ref nk, .int mhasKept, .ref nt, .int mtaped, .ref nr, .int mrowMany, .int mroundOf, .int mroundFrom, .int mouts, .ref nm, .int mfromHour, .int mtoHour, .ref ns, .int mfrom, .int mto, .int msort, .int misFault, .int mdeep, .int mcoded, .int mlines, .ref nl, .ref nc, .ref nF, .ref np, .ref ntr, .ref nb, .int mbestCost, .ref nso, .ref nsi, .ref nit, .ref nsh, .ref nsf, .ref nss, .ref nrc, .int (nI jr15822), .int 5, .int mnumber, .int mwhose, .int msize, .int ip15823])), (nrc, .inl (G.2.1, 30, .inl gtrc5824))] H := hP
    have hD : va_D A [(h0, .inr (12, [.ref nw, .ref nk, .int mhasKept, .ref nt, .int mtaped, .ref nr, .int mrowMany, .int mroundOf, .int mroundFrom, .int mouts, .ref nm, .int mfromHour, .int mtoHour, .ref ns, .int mfrom, .int mto, .int msort, .int misFault, .int mdeep, .int mcoded, .int mlines, .ref nl, .ref nc, .ref nF, .ref np, .ref ntr, .ref nb, .int mbestCost, .ref nso, .ref nsi, .ref nit, .ref nsh, .ref nsf, .ref nss, .ref nrc, .int (nI jr15822), .int 5, .int mnumber, .int mwhose, .int msize, .int ip15823])), (nrc, .inl (G.2.1, 30, .inl gtrc5824))] := hD
    obtain ⟨hr5820, w5825⟩ := hr5820
    exact RI (v := r5820) hC hP hD hS [0, 1] (jr15822, ip15823, gtrc5824) rfl rfl (by decide) (⟨trivial, by omega⟩) rfl dX12_dealt_10
  · refine iV (wr := []) hC hK hl hP hD hS hA (m_from61 l G h0 xx nw nk mhasKept nt mtaped nr mrowMany mroundOf mroundFrom mouts nm mfromHour mtoHour ns mfrom mto msort misFault mdeep mcoded mlines nl nc nF np ntr nb mbestCost nso nsi nit nsh nsf nss nrc jr 6 mnumber mwhose msize misParted fnrc (by omega) (by omega)) si_X12_357 [0, 1] [] rfl rfl (by decide) rfl (by decide) (by decide) rfl rfl rfl rfl rfl (Nat.le_of_ble_eq_true rfl) ⟨Nat.le_of_ble_eq_true rfl, Nat.le_of_ble_eq_true rfl⟩ ⟨Nat.le_of_ble_eq_true rfl, Nat.le_of_ble_eq_true rfl⟩ dX12_dealt_7 (fun r5826 u5827 H locs hr5826 hP hD hS => ?_)
    obtain ⟨jr15828, ip15829, gtrc5830⟩ := u5827
    try dsimp only at hr5826
    have hP : va_P G.1 vwCl [(h0, .inr (12, [.ref nw, .ref nk, .int mhasKept, .ref nt, .int mtaped, .ref nr, .int mrowMany, .int mroundOf, .int mroundFrom, .int mouts, .ref nm, .int mfromHour, .int mtoHour, .ref ns, .int mfrom, .int mto, .int msort, .int misFault, .int mdeep, .int mcoded, .int mlines, .ref nl, .ref nc, .ref nF, .ref np, .ref ntr, .ref nb, .int mbestCost, .ref nso, .ref nsi, .ref nit, .ref nsh, .ref nsf, .ref nss, .ref nrc, .int (nI jr15828), .int 6, .int mnumber, .int mwhose, .int msize, .int ip15829])), (nrc, .inl (G.2.1, 30, .inl gtrc5830))] H := hP
    have hD : va_D A [(h0, .inr (12, [.ref nw, .ref nk, .int mhasKept, .ref nt, .int mtaped, .ref nr, .int mrowMany, .int mroundOf, .int mroundFrom, .int mouts, .ref nm, .int mfromHour, .int mtoHour, .ref ns, .int mfrom, .int mto, .int msort, .int misFault, .int mdeep, .int mcoded, .int mlines, .ref nl, .ref nc, .ref nF, .ref np, .ref ntr, .ref nb, .int mbestCost, .ref nso, .ref nsi, .ref nit, .ref nsh, .ref nsf, .ref nss, .ref nrc, .int (nI jr15828), .int 6, .int mnumber, .int mwhose, .int msize, .int ip15829])), (nrc, .inl (G.2.1, 30, .inl gtrc5830))] := hD
    obtain ⟨hr5826, w5831⟩ := hr5826
    exact RI (v := r5826) hC hP hD hS [0, 1] (jr15828, ip15829, gtrc5830) rfl rfl (by decide) (⟨trivial, by omega⟩) rfl dX12_dealt_10
set_option maxHeartbeats 4000000 in
set_option maxRecDepth 100000 in
theorem m_body02 (l : Launch) (G : GG) (h0 : Nat) (xx : Int32) (nw : Nat) (nk : Nat) (mhasKept : Int32) (nt : Nat) (mtaped : Int32) (nr : Nat) (mrowMany : Int32) (mroundOf : Int32) (mroundFrom : Int32) (mouts : Int32) (nm : Nat) (mfromHour : Int32) (mtoHour : Int32) (ns : Nat) (mfrom : Int32) (mto : Int32) (msort : Int32) (misFault : Int32) (mdeep : Int32) (mcoded : Int32) (mlines : Int32) (nl : Nat) (nc : Nat) (nF : Nat) (np : Nat) (ntr : Nat) (nb : Nat) (mbestCost : Int32) (nso : Nat) (nsi : Nat) (nit : Nat) (nsh : Nat) (nsf : Nat) (nss : Nat) (nrc : Nat) (jr : Nat) (jd : Nat) (mnumber : Int32) (mwhose : Int32) (msize : Int32) (misParted : Int32) (fnrc : Nat → Int32) (hjr : jr ≤ 30) (hjd : jd < 7) : MI l G yX12_body cX12_body 6 (some .int) 27 0 0 [.ref h0, .int 0, .int 2, .int xx] [(h0, .inr (12, [.ref nw, .ref nk, .int mhasKept, .ref nt, .int mtaped, .ref nr, .int mrowMany, .int mroundOf, .int mroundFrom, .int mouts, .ref nm, .int mfromHour, .int mtoHour, .ref ns, .int mfrom, .int mto, .int msort, .int misFault, .int mdeep, .int mcoded, .int mlines, .ref nl, .ref nc, .ref nF, .ref np, .ref ntr, .ref nb, .int mbestCost, .ref nso, .ref nsi, .ref nit, .ref nsh, .ref nsf, .ref nss, .ref nrc, .int (nI jr), .int (nI jd), .int mnumber, .int mwhose, .int msize, .int misParted])), (nrc, .inl (G.2.1, 30, .inl fnrc))] (fun (r : Int32) (u : Nat × Int32 × (Nat → Int32)) => (True) ∧ (u.1 ≤ 30)) (fun u : Nat × Int32 × (Nat → Int32) => [(h0, .inr (12, [.ref nw, .ref nk, .int mhasKept, .ref nt, .int mtaped, .ref nr, .int mrowMany, .int mroundOf, .int mroundFrom, .int mouts, .ref nm, .int mfromHour, .int mtoHour, .ref ns, .int mfrom, .int mto, .int msort, .int misFault, .int mdeep, .int mcoded, .int mlines, .ref nl, .ref nc, .ref nF, .ref np, .ref ntr, .ref nb, .int mbestCost, .ref nso, .ref nsi, .ref nit, .ref nsh, .ref nsf, .ref nss, .ref nrc, .int (nI u.1), .int (nI jd), .int mnumber, .int mwhose, .int msize, .int u.2.1])), (nrc, .inl (G.2.1, 30, .inl u.2.2))]) := by
  refine MI.start (by decide +kernel) (Nat.le_of_ble_eq_true rfl) ?_
  intro p e s m below meth c A ls hC hK hP hD hS hA hl
  have hl : lv_has ls 6 [(0, .ref h0), (1, .int 0), (2, .int 2), (3, .int xx)] := hl
  obtain ⟨hx, hb, hr, hml, hB, hown, hlocks, hnm⟩ := id hC
  refine lv_iconst (v := 4) hx hb dX12_body_0 (by decide) ?_
  refine lv_iload_n hx hb dX12_body_1 rfl (lv_at hl 1 rfl) ?_
  refine lv_imul hx hb dX12_body_2 ?_
  refine eqi (x1 := 0) (by decide) ?_
  refine lv_iload_n hx hb dX12_body_3 rfl (lv_at hl 2 rfl) ?_
  refine lv_iadd hx hb dX12_body_4 ?_
  refine eqi (x1 := 2) (by decide) ?_
  refine lv_tableIn (tgt := 140) hx hb dX12_body_5 (by decide) (by decide) rfl (by decide) ?_
  refine lv_aload_n hx hb dX12_body_140 rfl (lv_at hl 0 rfl) ?_
  refine lv_bipush (v := 12) hx hb dX12_body_141 (by decide) ?_
  refine vV (wr := []) hC hK hl hP hD hS hA (m_began l G h0 12 nw nk mhasKept nt mtaped nr mrowMany mroundOf mroundFrom mouts nm mfromHour mtoHour ns mfrom mto msort misFault mdeep mcoded mlines nl nc nF np ntr nb mbestCost nso nsi nit nsh nsf nss nrc jr (nI jd) mnumber mwhose msize misParted fnrc (by omega)) si_X12_366 [0, 1] [] rfl rfl (by decide) rfl (by decide) (by decide) rfl rfl rfl rfl rfl (Nat.le_of_ble_eq_true rfl) ⟨Nat.le_of_ble_eq_true rfl, Nat.le_of_ble_eq_true rfl⟩ ⟨Nat.le_of_ble_eq_true rfl, Nat.le_of_ble_eq_true rfl⟩ dX12_body_143 (fun u5833 H locs hr5832 hP hD hS => ?_)
  obtain ⟨jr15834, gtrc5835⟩ := u5833
  try dsimp only at hr5832
  have hP : va_P G.1 vwCl [(h0, .inr (12, [.ref nw, .ref nk, .int mhasKept, .ref nt, .int mtaped, .ref nr, .int mrowMany, .int mroundOf, .int mroundFrom, .int mouts, .ref nm, .int mfromHour, .int mtoHour, .ref ns, .int mfrom, .int mto, .int msort, .int misFault, .int mdeep, .int mcoded, .int mlines, .ref nl, .ref nc, .ref nF, .ref np, .ref ntr, .ref nb, .int mbestCost, .ref nso, .ref nsi, .ref nit, .ref nsh, .ref nsf, .ref nss, .ref nrc, .int (nI jr15834), .int (nI jd), .int mnumber, .int mwhose, .int msize, .int misParted])), (nrc, .inl (G.2.1, 30, .inl gtrc5835))] H := hP
  have hD : va_D A [(h0, .inr (12, [.ref nw, .ref nk, .int mhasKept, .ref nt, .int mtaped, .ref nr, .int mrowMany, .int mroundOf, .int mroundFrom, .int mouts, .ref nm, .int mfromHour, .int mtoHour, .ref ns, .int mfrom, .int mto, .int msort, .int misFault, .int mdeep, .int mcoded, .int mlines, .ref nl, .ref nc, .ref nF, .ref np, .ref ntr, .ref nb, .int mbestCost, .ref nso, .ref nsi, .ref nit, .ref nsh, .ref nsf, .ref nss, .ref nrc, .int (nI jr15834), .int (nI jd), .int mnumber, .int mwhose, .int msize, .int misParted])), (nrc, .inl (G.2.1, 30, .inl gtrc5835))] := hD
  have w5836 := hr5832
  refine lv_aload_n hx hb dX12_body_146 rfl (lv_at hl 0 rfl) ?_
  refine lv_iconst (v := 1) hx hb dX12_body_147 (by decide) ?_
  refine lv_iload_n hx hb dX12_body_148 rfl (lv_at hl 3 rfl) ?_
  refine iV (wr := []) hC hK hl hP hD hS hA (m_dealt1 l G h0 xx nw nk mhasKept nt mtaped nr mrowMany mroundOf mroundFrom mouts nm mfromHour mtoHour ns mfrom mto msort misFault mdeep mcoded mlines nl nc nF np ntr nb mbestCost nso nsi nit nsh nsf nss nrc jr15834 jd mnumber mwhose msize misParted gtrc5835 (by omega) (by omega)) si_X12_372 [0, 1] [] rfl rfl (by decide) rfl (by decide) (by decide) rfl rfl rfl rfl rfl (Nat.le_of_ble_eq_true rfl) ⟨Nat.le_of_ble_eq_true rfl, Nat.le_of_ble_eq_true rfl⟩ ⟨Nat.le_of_ble_eq_true rfl, Nat.le_of_ble_eq_true rfl⟩ dX12_body_149 (fun r5837 u5838 H locs hr5837 hP hD hS => ?_)
  obtain ⟨jr15839, ip15840, gtrc5841⟩ := u5838
  try dsimp only at hr5837
  have hP : va_P G.1 vwCl [(h0, .inr (12, [.ref nw, .ref nk, .int mhasKept, .ref nt, .int mtaped, .ref nr, .int mrowMany, .int mroundOf, .int mroundFrom, .int mouts, .ref nm, .int mfromHour, .int mtoHour, .ref ns, .int mfrom, .int mto, .int msort, .int misFault, .int mdeep, .int mcoded, .int mlines, .ref nl, .ref nc, .ref nF, .ref np, .ref ntr, .ref nb, .int mbestCost, .ref nso, .ref nsi, .ref nit, .ref nsh, .ref nsf, .ref nss, .ref nrc, .int (nI jr15839), .int (nI jd), .int mnumber, .int mwhose, .int msize, .int ip15840])), (nrc, .inl (G.2.1, 30, .inl gtrc5841))] H := hP
  have hD : va_D A [(h0, .inr (12, [.ref nw, .ref nk, .int mhasKept, .ref nt, .int mtaped, .ref nr, .int mrowMany, .int mroundOf, .int mroundFrom, .int mouts, .ref nm, .int mfromHour, .int mtoHour, .ref ns, .int mfrom, .int mto, .int msort, .int misFault, .int mdeep, .int mcoded, .int mlines, .ref nl, .ref nc, .ref nF, .ref np, .ref ntr, .ref nb, .int mbestCost, .ref nso, .ref nsi, .ref nit, .ref nsh, .ref nsf, .ref nss, .ref nrc, .int (nI jr15839), .int (nI jd), .int mnumber, .int mwhose, .int msize, .int ip15840])), (nrc, .inl (G.2.1, 30, .inl gtrc5841))] := hD
  obtain ⟨hr5837, w5842⟩ := hr5837
  refine lv_aload_n hx hb dX12_body_152 rfl (lv_at hl 0 rfl) ?_
  refine gf_X12_375 hC rfl hK hP 0 rfl rfl dX12_body_153 ?_
  refine lv_isub hx hb dX12_body_156 ?_
  exact RI (v := r5837 - mwhose) hC hP hD hS [0, 1] (jr15839, ip15840, gtrc5841) rfl rfl (by decide) (⟨trivial, by omega⟩) rfl dX12_body_157
set_option maxHeartbeats 4000000 in
set_option maxRecDepth 100000 in
theorem m_from02 (l : Launch) (G : GG) (h0 : Nat) (xx : Int32) (nw : Nat) (nk : Nat) (mhasKept : Int32) (nt : Nat) (mtaped : Int32) (nr : Nat) (mrowMany : Int32) (mroundOf : Int32) (mroundFrom : Int32) (mouts : Int32) (nm : Nat) (mfromHour : Int32) (mtoHour : Int32) (ns : Nat) (mfrom : Int32) (mto : Int32) (msort : Int32) (misFault : Int32) (mdeep : Int32) (mcoded : Int32) (mlines : Int32) (nl : Nat) (nc : Nat) (nF : Nat) (np : Nat) (ntr : Nat) (nb : Nat) (mbestCost : Int32) (nso : Nat) (nsi : Nat) (nit : Nat) (nsh : Nat) (nsf : Nat) (nss : Nat) (nrc : Nat) (jr : Nat) (jd : Nat) (mnumber : Int32) (mwhose : Int32) (msize : Int32) (misParted : Int32) (fnrc : Nat → Int32) (hjr : jr ≤ 30) (hjd : jd < 7) : MI l G yX12_bodyFrom cX12_bodyFrom 5 (some .int) 28 0 0 [.ref h0, .int 0, .int 2, .int xx] [(h0, .inr (12, [.ref nw, .ref nk, .int mhasKept, .ref nt, .int mtaped, .ref nr, .int mrowMany, .int mroundOf, .int mroundFrom, .int mouts, .ref nm, .int mfromHour, .int mtoHour, .ref ns, .int mfrom, .int mto, .int msort, .int misFault, .int mdeep, .int mcoded, .int mlines, .ref nl, .ref nc, .ref nF, .ref np, .ref ntr, .ref nb, .int mbestCost, .ref nso, .ref nsi, .ref nit, .ref nsh, .ref nsf, .ref nss, .ref nrc, .int (nI jr), .int (nI jd), .int mnumber, .int mwhose, .int msize, .int misParted])), (nrc, .inl (G.2.1, 30, .inl fnrc))] (fun (r : Int32) (u : Nat × Int32 × (Nat → Int32)) => (True) ∧ (u.1 ≤ 30)) (fun u : Nat × Int32 × (Nat → Int32) => [(h0, .inr (12, [.ref nw, .ref nk, .int mhasKept, .ref nt, .int mtaped, .ref nr, .int mrowMany, .int mroundOf, .int mroundFrom, .int mouts, .ref nm, .int mfromHour, .int mtoHour, .ref ns, .int mfrom, .int mto, .int msort, .int misFault, .int mdeep, .int mcoded, .int mlines, .ref nl, .ref nc, .ref nF, .ref np, .ref ntr, .ref nb, .int mbestCost, .ref nso, .ref nsi, .ref nit, .ref nsh, .ref nsf, .ref nss, .ref nrc, .int (nI u.1), .int (nI jd), .int mnumber, .int mwhose, .int msize, .int u.2.1])), (nrc, .inl (G.2.1, 30, .inl u.2.2))]) := by
  refine MI.start (by decide +kernel) (Nat.le_of_ble_eq_true rfl) ?_
  intro p e s m below meth c A ls hC hK hP hD hS hA hl
  have hl : lv_has ls 5 [(0, .ref h0), (1, .int 0), (2, .int 2), (3, .int xx)] := hl
  obtain ⟨hx, hb, hr, hml, hB, hown, hlocks, hnm⟩ := id hC
  refine lv_iload_n hx hb dX12_bodyFrom_0 rfl (lv_at hl 1 rfl) ?_
  refine lv_istore (lv' := [(4, .int 0), (0, .ref h0), (1, .int 0), (2, .int 2), (3, .int xx)]) hx hb dX12_bodyFrom_1 hl (by decide) rfl (fun ls hl => ?_)
  refine lv_iload hx hb dX12_bodyFrom_3 (lv_at hl 0 rfl) ?_
  refine lv_iload_n hx hb dX12_bodyFrom_5 rfl (lv_at hl 3 rfl) ?_
  refine pS hC hK hl (m_hasOwn02 l G) si_X12_360 rfl rfl (Nat.le_of_ble_eq_true rfl) ⟨Nat.le_of_ble_eq_true rfl, Nat.le_of_ble_eq_true rfl⟩ ⟨by first | exact Nat.le_of_ble_eq_true rfl | exact Nat.zero_le _, by first | exact Nat.le_of_ble_eq_true rfl | exact Nat.zero_le _⟩ dX12_bodyFrom_6 (fun r5843 hr5843 => ?_)
  obtain rfl := hr5843
  refine lv_if_ne (tgt := 22) hx hb dX12_bodyFrom_9 (by decide) (fun _ => ?_) (fun c9 => absurd c9 (by decide))
  refine lv_aload_n hx hb dX12_bodyFrom_22 rfl (lv_at hl 1 rfl) ?_
  refine lv_iload hx hb dX12_bodyFrom_23 (lv_at hl 0 rfl) ?_
  refine lv_iload_n hx hb dX12_bodyFrom_25 rfl (lv_at hl 3 rfl) ?_
  refine lv_iload_n hx hb dX12_bodyFrom_26 rfl (lv_at hl 4 rfl) ?_
  refine iV (wr := []) hC hK hl hP hD hS hA (m_body02 l G h0 xx nw nk mhasKept nt mtaped nr mrowMany mroundOf mroundFrom mouts nm mfromHour mtoHour ns mfrom mto msort misFault mdeep mcoded mlines nl nc nF np ntr nb mbestCost nso nsi nit nsh nsf nss nrc jr jd mnumber mwhose msize misParted fnrc (by omega) (by omega)) si_X12_363 [0, 1] [] rfl rfl (by decide) rfl (by decide) (by decide) rfl rfl rfl rfl rfl (Nat.le_of_ble_eq_true rfl) ⟨Nat.le_of_ble_eq_true rfl, Nat.le_of_ble_eq_true rfl⟩ ⟨Nat.le_of_ble_eq_true rfl, Nat.le_of_ble_eq_true rfl⟩ dX12_bodyFrom_27 (fun r5845 u5846 H locs hr5845 hP hD hS => ?_)
  obtain ⟨jr15847, ip15848, gtrc5849⟩ := u5846
  try dsimp only at hr5845
  have hP : va_P G.1 vwCl [(h0, .inr (12, [.ref nw, .ref nk, .int mhasKept, .ref nt, .int mtaped, .ref nr, .int mrowMany, .int mroundOf, .int mroundFrom, .int mouts, .ref nm, .int mfromHour, .int mtoHour, .ref ns, .int mfrom, .int mto, .int msort, .int misFault, .int mdeep, .int mcoded, .int mlines, .ref nl, .ref nc, .ref nF, .ref np, .ref ntr, .ref nb, .int mbestCost, .ref nso, .ref nsi, .ref nit, .ref nsh, .ref nsf, .ref nss, .ref nrc, .int (nI jr15847), .int (nI jd), .int mnumber, .int mwhose, .int msize, .int ip15848])), (nrc, .inl (G.2.1, 30, .inl gtrc5849))] H := hP
  have hD : va_D A [(h0, .inr (12, [.ref nw, .ref nk, .int mhasKept, .ref nt, .int mtaped, .ref nr, .int mrowMany, .int mroundOf, .int mroundFrom, .int mouts, .ref nm, .int mfromHour, .int mtoHour, .ref ns, .int mfrom, .int mto, .int msort, .int misFault, .int mdeep, .int mcoded, .int mlines, .ref nl, .ref nc, .ref nF, .ref np, .ref ntr, .ref nb, .int mbestCost, .ref nso, .ref nsi, .ref nit, .ref nsh, .ref nsf, .ref nss, .ref nrc, .int (nI jr15847), .int (nI jd), .int mnumber, .int mwhose, .int msize, .int ip15848])), (nrc, .inl (G.2.1, 30, .inl gtrc5849))] := hD
  obtain ⟨hr5845, w5850⟩ := hr5845
  exact RI (v := r5845) hC hP hD hS [0, 1] (jr15847, ip15848, gtrc5849) rfl rfl (by decide) (⟨trivial, by omega⟩) rfl dX12_bodyFrom_30
set_option maxHeartbeats 4000000 in
set_option maxRecDepth 100000 in
theorem m_body22 (l : Launch) (G : GG) (h0 : Nat) (xx : Int32) (nw : Nat) (nk : Nat) (mhasKept : Int32) (nt : Nat) (mtaped : Int32) (nr : Nat) (mrowMany : Int32) (mroundOf : Int32) (mroundFrom : Int32) (mouts : Int32) (nm : Nat) (mfromHour : Int32) (mtoHour : Int32) (ns : Nat) (mfrom : Int32) (mto : Int32) (msort : Int32) (misFault : Int32) (mdeep : Int32) (mcoded : Int32) (mlines : Int32) (nl : Nat) (nc : Nat) (nF : Nat) (np : Nat) (ntr : Nat) (nb : Nat) (mbestCost : Int32) (nso : Nat) (nsi : Nat) (nit : Nat) (nsh : Nat) (nsf : Nat) (nss : Nat) (nrc : Nat) (jr : Nat) (jd : Nat) (mnumber : Int32) (mwhose : Int32) (msize : Int32) (misParted : Int32) (fnrc : Nat → Int32) (hjr : jr ≤ 30) (hjd : jd < 7) : MI l G yX12_body cX12_body 6 (some .int) 29 0 0 [.ref h0, .int 2, .int 2, .int xx] [(h0, .inr (12, [.ref nw, .ref nk, .int mhasKept, .ref nt, .int mtaped, .ref nr, .int mrowMany, .int mroundOf, .int mroundFrom, .int mouts, .ref nm, .int mfromHour, .int mtoHour, .ref ns, .int mfrom, .int mto, .int msort, .int misFault, .int mdeep, .int mcoded, .int mlines, .ref nl, .ref nc, .ref nF, .ref np, .ref ntr, .ref nb, .int mbestCost, .ref nso, .ref nsi, .ref nit, .ref nsh, .ref nsf, .ref nss, .ref nrc, .int (nI jr), .int (nI jd), .int mnumber, .int mwhose, .int msize, .int misParted])), (nrc, .inl (G.2.1, 30, .inl fnrc))] (fun (r : Int32) (u : Nat × Int32 × (Nat → Int32)) => (True) ∧ (u.1 ≤ 30)) (fun u : Nat × Int32 × (Nat → Int32) => [(h0, .inr (12, [.ref nw, .ref nk, .int mhasKept, .ref nt, .int mtaped, .ref nr, .int mrowMany, .int mroundOf, .int mroundFrom, .int mouts, .ref nm, .int mfromHour, .int mtoHour, .ref ns, .int mfrom, .int mto, .int msort, .int misFault, .int mdeep, .int mcoded, .int mlines, .ref nl, .ref nc, .ref nF, .ref np, .ref ntr, .ref nb, .int mbestCost, .ref nso, .ref nsi, .ref nit, .ref nsh, .ref nsf, .ref nss, .ref nrc, .int (nI u.1), .int (nI jd), .int mnumber, .int mwhose, .int msize, .int u.2.1])), (nrc, .inl (G.2.1, 30, .inl u.2.2))]) := by
  refine MI.start (by decide +kernel) (Nat.le_of_ble_eq_true rfl) ?_
  intro p e s m below meth c A ls hC hK hP hD hS hA hl
  have hl : lv_has ls 6 [(0, .ref h0), (1, .int 2), (2, .int 2), (3, .int xx)] := hl
  obtain ⟨hx, hb, hr, hml, hB, hown, hlocks, hnm⟩ := id hC
  refine lv_iconst (v := 4) hx hb dX12_body_0 (by decide) ?_
  refine lv_iload_n hx hb dX12_body_1 rfl (lv_at hl 1 rfl) ?_
  refine lv_imul hx hb dX12_body_2 ?_
  refine eqi (x1 := 8) (by decide) ?_
  refine lv_iload_n hx hb dX12_body_3 rfl (lv_at hl 2 rfl) ?_
  refine lv_iadd hx hb dX12_body_4 ?_
  refine eqi (x1 := 10) (by decide) ?_
  refine lv_tableIn (tgt := 226) hx hb dX12_body_5 (by decide) (by decide) rfl (by decide) ?_
  refine lv_aload_n hx hb dX12_body_226 rfl (lv_at hl 0 rfl) ?_
  refine lv_bipush (v := 30) hx hb dX12_body_227 (by decide) ?_
  refine vV (wr := []) hC hK hl hP hD hS hA (m_began l G h0 30 nw nk mhasKept nt mtaped nr mrowMany mroundOf mroundFrom mouts nm mfromHour mtoHour ns mfrom mto msort misFault mdeep mcoded mlines nl nc nF np ntr nb mbestCost nso nsi nit nsh nsf nss nrc jr (nI jd) mnumber mwhose msize misParted fnrc (by omega)) si_X12_366 [0, 1] [] rfl rfl (by decide) rfl (by decide) (by decide) rfl rfl rfl rfl rfl (Nat.le_of_ble_eq_true rfl) ⟨Nat.le_of_ble_eq_true rfl, Nat.le_of_ble_eq_true rfl⟩ ⟨Nat.le_of_ble_eq_true rfl, Nat.le_of_ble_eq_true rfl⟩ dX12_body_229 (fun u5852 H locs hr5851 hP hD hS => ?_)
  obtain ⟨jr15853, gtrc5854⟩ := u5852
  try dsimp only at hr5851
  have hP : va_P G.1 vwCl [(h0, .inr (12, [.ref nw, .ref nk, .int mhasKept, .ref nt, .int mtaped, .ref nr, .int mrowMany, .int mroundOf, .int mroundFrom, .int mouts, .ref nm, .int mfromHour, .int mtoHour, .ref ns, .int mfrom, .int mto, .int msort, .int misFault, .int mdeep, .int mcoded, .int mlines, .ref nl, .ref nc, .ref nF, .ref np, .ref ntr, .ref nb, .int mbestCost, .ref nso, .ref nsi, .ref nit, .ref nsh, .ref nsf, .ref nss, .ref nrc, .int (nI jr15853), .int (nI jd), .int mnumber, .int mwhose, .int msize, .int misParted])), (nrc, .inl (G.2.1, 30, .inl gtrc5854))] H := hP
  have hD : va_D A [(h0, .inr (12, [.ref nw, .ref nk, .int mhasKept, .ref nt, .int mtaped, .ref nr, .int mrowMany, .int mroundOf, .int mroundFrom, .int mouts, .ref nm, .int mfromHour, .int mtoHour, .ref ns, .int mfrom, .int mto, .int msort, .int misFault, .int mdeep, .int mcoded, .int mlines, .ref nl, .ref nc, .ref nF, .ref np, .ref ntr, .ref nb, .int mbestCost, .ref nso, .ref nsi, .ref nit, .ref nsh, .ref nsf, .ref nss, .ref nrc, .int (nI jr15853), .int (nI jd), .int mnumber, .int mwhose, .int msize, .int misParted])), (nrc, .inl (G.2.1, 30, .inl gtrc5854))] := hD
  have w5855 := hr5851
  refine lv_aload_n hx hb dX12_body_232 rfl (lv_at hl 0 rfl) ?_
  refine lv_iconst (v := 0) hx hb dX12_body_233 (by decide) ?_
  refine lv_iconst (v := 2) hx hb dX12_body_234 (by decide) ?_
  refine lv_iload_n hx hb dX12_body_235 rfl (lv_at hl 3 rfl) ?_
  refine iV (wr := []) hC hK hl hP hD hS hA (m_from02 l G h0 xx nw nk mhasKept nt mtaped nr mrowMany mroundOf mroundFrom mouts nm mfromHour mtoHour ns mfrom mto msort misFault mdeep mcoded mlines nl nc nF np ntr nb mbestCost nso nsi nit nsh nsf nss nrc jr15853 jd mnumber mwhose msize misParted gtrc5854 (by omega) (by omega)) si_X12_357 [0, 1] [] rfl rfl (by decide) rfl (by decide) (by decide) rfl rfl rfl rfl rfl (Nat.le_of_ble_eq_true rfl) ⟨Nat.le_of_ble_eq_true rfl, Nat.le_of_ble_eq_true rfl⟩ ⟨Nat.le_of_ble_eq_true rfl, Nat.le_of_ble_eq_true rfl⟩ dX12_body_236 (fun r5856 u5857 H locs hr5856 hP hD hS => ?_)
  obtain ⟨jr15858, ip15859, gtrc5860⟩ := u5857
  try dsimp only at hr5856
  have hP : va_P G.1 vwCl [(h0, .inr (12, [.ref nw, .ref nk, .int mhasKept, .ref nt, .int mtaped, .ref nr, .int mrowMany, .int mroundOf, .int mroundFrom, .int mouts, .ref nm, .int mfromHour, .int mtoHour, .ref ns, .int mfrom, .int mto, .int msort, .int misFault, .int mdeep, .int mcoded, .int mlines, .ref nl, .ref nc, .ref nF, .ref np, .ref ntr, .ref nb, .int mbestCost, .ref nso, .ref nsi, .ref nit, .ref nsh, .ref nsf, .ref nss, .ref nrc, .int (nI jr15858), .int (nI jd), .int mnumber, .int mwhose, .int msize, .int ip15859])), (nrc, .inl (G.2.1, 30, .inl gtrc5860))] H := hP
  have hD : va_D A [(h0, .inr (12, [.ref nw, .ref nk, .int mhasKept, .ref nt, .int mtaped, .ref nr, .int mrowMany, .int mroundOf, .int mroundFrom, .int mouts, .ref nm, .int mfromHour, .int mtoHour, .ref ns, .int mfrom, .int mto, .int msort, .int misFault, .int mdeep, .int mcoded, .int mlines, .ref nl, .ref nc, .ref nF, .ref np, .ref ntr, .ref nb, .int mbestCost, .ref nso, .ref nsi, .ref nit, .ref nsh, .ref nsf, .ref nss, .ref nrc, .int (nI jr15858), .int (nI jd), .int mnumber, .int mwhose, .int msize, .int ip15859])), (nrc, .inl (G.2.1, 30, .inl gtrc5860))] := hD
  obtain ⟨hr5856, w5861⟩ := hr5856
  refine lv_iconst (v := 3) hx hb dX12_body_239 (by decide) ?_
  refine lv_imul hx hb dX12_body_240 ?_
  exact RI (v := r5856 * 3) hC hP hD hS [0, 1] (jr15858, ip15859, gtrc5860) rfl rfl (by decide) (⟨trivial, by omega⟩) rfl dX12_body_241
set_option maxHeartbeats 4000000 in
set_option maxRecDepth 100000 in
theorem m_from22 (l : Launch) (G : GG) (h0 : Nat) (xx : Int32) (nw : Nat) (nk : Nat) (mhasKept : Int32) (nt : Nat) (mtaped : Int32) (nr : Nat) (mrowMany : Int32) (mroundOf : Int32) (mroundFrom : Int32) (mouts : Int32) (nm : Nat) (mfromHour : Int32) (mtoHour : Int32) (ns : Nat) (mfrom : Int32) (mto : Int32) (msort : Int32) (misFault : Int32) (mdeep : Int32) (mcoded : Int32) (mlines : Int32) (nl : Nat) (nc : Nat) (nF : Nat) (np : Nat) (ntr : Nat) (nb : Nat) (mbestCost : Int32) (nso : Nat) (nsi : Nat) (nit : Nat) (nsh : Nat) (nsf : Nat) (nss : Nat) (nrc : Nat) (jr : Nat) (jd : Nat) (mnumber : Int32) (mwhose : Int32) (msize : Int32) (misParted : Int32) (fnrc : Nat → Int32) (hjr : jr ≤ 30) (hjd : jd < 7) : MI l G yX12_bodyFrom cX12_bodyFrom 5 (some .int) 30 0 0 [.ref h0, .int 2, .int 2, .int xx] [(h0, .inr (12, [.ref nw, .ref nk, .int mhasKept, .ref nt, .int mtaped, .ref nr, .int mrowMany, .int mroundOf, .int mroundFrom, .int mouts, .ref nm, .int mfromHour, .int mtoHour, .ref ns, .int mfrom, .int mto, .int msort, .int misFault, .int mdeep, .int mcoded, .int mlines, .ref nl, .ref nc, .ref nF, .ref np, .ref ntr, .ref nb, .int mbestCost, .ref nso, .ref nsi, .ref nit, .ref nsh, .ref nsf, .ref nss, .ref nrc, .int (nI jr), .int (nI jd), .int mnumber, .int mwhose, .int msize, .int misParted])), (nrc, .inl (G.2.1, 30, .inl fnrc))] (fun (r : Int32) (u : Nat × Int32 × (Nat → Int32)) => (True) ∧ (u.1 ≤ 30)) (fun u : Nat × Int32 × (Nat → Int32) => [(h0, .inr (12, [.ref nw, .ref nk, .int mhasKept, .ref nt, .int mtaped, .ref nr, .int mrowMany, .int mroundOf, .int mroundFrom, .int mouts, .ref nm, .int mfromHour, .int mtoHour, .ref ns, .int mfrom, .int mto, .int msort, .int misFault, .int mdeep, .int mcoded, .int mlines, .ref nl, .ref nc, .ref nF, .ref np, .ref ntr, .ref nb, .int mbestCost, .ref nso, .ref nsi, .ref nit, .ref nsh, .ref nsf, .ref nss, .ref nrc, .int (nI u.1), .int (nI jd), .int mnumber, .int mwhose, .int msize, .int u.2.1])), (nrc, .inl (G.2.1, 30, .inl u.2.2))]) := by
  refine MI.start (by decide +kernel) (Nat.le_of_ble_eq_true rfl) ?_
  intro p e s m below meth c A ls hC hK hP hD hS hA hl
  have hl : lv_has ls 5 [(0, .ref h0), (1, .int 2), (2, .int 2), (3, .int xx)] := hl
  obtain ⟨hx, hb, hr, hml, hB, hown, hlocks, hnm⟩ := id hC
  refine lv_iload_n hx hb dX12_bodyFrom_0 rfl (lv_at hl 1 rfl) ?_
  refine lv_istore (lv' := [(4, .int 2), (0, .ref h0), (1, .int 2), (2, .int 2), (3, .int xx)]) hx hb dX12_bodyFrom_1 hl (by decide) rfl (fun ls hl => ?_)
  refine lv_iload hx hb dX12_bodyFrom_3 (lv_at hl 0 rfl) ?_
  refine lv_iload_n hx hb dX12_bodyFrom_5 rfl (lv_at hl 3 rfl) ?_
  refine pS hC hK hl (m_hasOwn22 l G) si_X12_360 rfl rfl (Nat.le_of_ble_eq_true rfl) ⟨Nat.le_of_ble_eq_true rfl, Nat.le_of_ble_eq_true rfl⟩ ⟨by first | exact Nat.le_of_ble_eq_true rfl | exact Nat.zero_le _, by first | exact Nat.le_of_ble_eq_true rfl | exact Nat.zero_le _⟩ dX12_bodyFrom_6 (fun r5862 hr5862 => ?_)
  obtain rfl := hr5862
  refine lv_if_ne (tgt := 22) hx hb dX12_bodyFrom_9 (by decide) (fun _ => ?_) (fun c9 => absurd c9 (by decide))
  refine lv_aload_n hx hb dX12_bodyFrom_22 rfl (lv_at hl 1 rfl) ?_
  refine lv_iload hx hb dX12_bodyFrom_23 (lv_at hl 0 rfl) ?_
  refine lv_iload_n hx hb dX12_bodyFrom_25 rfl (lv_at hl 3 rfl) ?_
  refine lv_iload_n hx hb dX12_bodyFrom_26 rfl (lv_at hl 4 rfl) ?_
  refine iV (wr := []) hC hK hl hP hD hS hA (m_body22 l G h0 xx nw nk mhasKept nt mtaped nr mrowMany mroundOf mroundFrom mouts nm mfromHour mtoHour ns mfrom mto msort misFault mdeep mcoded mlines nl nc nF np ntr nb mbestCost nso nsi nit nsh nsf nss nrc jr jd mnumber mwhose msize misParted fnrc (by omega) (by omega)) si_X12_363 [0, 1] [] rfl rfl (by decide) rfl (by decide) (by decide) rfl rfl rfl rfl rfl (Nat.le_of_ble_eq_true rfl) ⟨Nat.le_of_ble_eq_true rfl, Nat.le_of_ble_eq_true rfl⟩ ⟨Nat.le_of_ble_eq_true rfl, Nat.le_of_ble_eq_true rfl⟩ dX12_bodyFrom_27 (fun r5864 u5865 H locs hr5864 hP hD hS => ?_)
  obtain ⟨jr15866, ip15867, gtrc5868⟩ := u5865
  try dsimp only at hr5864
  have hP : va_P G.1 vwCl [(h0, .inr (12, [.ref nw, .ref nk, .int mhasKept, .ref nt, .int mtaped, .ref nr, .int mrowMany, .int mroundOf, .int mroundFrom, .int mouts, .ref nm, .int mfromHour, .int mtoHour, .ref ns, .int mfrom, .int mto, .int msort, .int misFault, .int mdeep, .int mcoded, .int mlines, .ref nl, .ref nc, .ref nF, .ref np, .ref ntr, .ref nb, .int mbestCost, .ref nso, .ref nsi, .ref nit, .ref nsh, .ref nsf, .ref nss, .ref nrc, .int (nI jr15866), .int (nI jd), .int mnumber, .int mwhose, .int msize, .int ip15867])), (nrc, .inl (G.2.1, 30, .inl gtrc5868))] H := hP
  have hD : va_D A [(h0, .inr (12, [.ref nw, .ref nk, .int mhasKept, .ref nt, .int mtaped, .ref nr, .int mrowMany, .int mroundOf, .int mroundFrom, .int mouts, .ref nm, .int mfromHour, .int mtoHour, .ref ns, .int mfrom, .int mto, .int msort, .int misFault, .int mdeep, .int mcoded, .int mlines, .ref nl, .ref nc, .ref nF, .ref np, .ref ntr, .ref nb, .int mbestCost, .ref nso, .ref nsi, .ref nit, .ref nsh, .ref nsf, .ref nss, .ref nrc, .int (nI jr15866), .int (nI jd), .int mnumber, .int mwhose, .int msize, .int ip15867])), (nrc, .inl (G.2.1, 30, .inl gtrc5868))] := hD
  obtain ⟨hr5864, w5869⟩ := hr5864
  exact RI (v := r5864) hC hP hD hS [0, 1] (jr15866, ip15867, gtrc5868) rfl rfl (by decide) (⟨trivial, by omega⟩) rfl dX12_bodyFrom_30
set_option maxHeartbeats 4000000 in
set_option maxRecDepth 100000 in
theorem m_body42 (l : Launch) (G : GG) (h0 : Nat) (xx : Int32) (nw : Nat) (nk : Nat) (mhasKept : Int32) (nt : Nat) (mtaped : Int32) (nr : Nat) (mrowMany : Int32) (mroundOf : Int32) (mroundFrom : Int32) (mouts : Int32) (nm : Nat) (mfromHour : Int32) (mtoHour : Int32) (ns : Nat) (mfrom : Int32) (mto : Int32) (msort : Int32) (misFault : Int32) (mdeep : Int32) (mcoded : Int32) (mlines : Int32) (nl : Nat) (nc : Nat) (nF : Nat) (np : Nat) (ntr : Nat) (nb : Nat) (mbestCost : Int32) (nso : Nat) (nsi : Nat) (nit : Nat) (nsh : Nat) (nsf : Nat) (nss : Nat) (nrc : Nat) (jr : Nat) (jd : Nat) (mnumber : Int32) (mwhose : Int32) (msize : Int32) (misParted : Int32) (fnrc : Nat → Int32) (hjr : jr ≤ 30) (hjd : jd < 7) : MI l G yX12_body cX12_body 6 (some .int) 31 0 0 [.ref h0, .int 4, .int 2, .int xx] [(h0, .inr (12, [.ref nw, .ref nk, .int mhasKept, .ref nt, .int mtaped, .ref nr, .int mrowMany, .int mroundOf, .int mroundFrom, .int mouts, .ref nm, .int mfromHour, .int mtoHour, .ref ns, .int mfrom, .int mto, .int msort, .int misFault, .int mdeep, .int mcoded, .int mlines, .ref nl, .ref nc, .ref nF, .ref np, .ref ntr, .ref nb, .int mbestCost, .ref nso, .ref nsi, .ref nit, .ref nsh, .ref nsf, .ref nss, .ref nrc, .int (nI jr), .int (nI jd), .int mnumber, .int mwhose, .int msize, .int misParted])), (nrc, .inl (G.2.1, 30, .inl fnrc))] (fun (r : Int32) (u : Nat × Int32 × (Nat → Int32)) => (True) ∧ (u.1 ≤ 30)) (fun u : Nat × Int32 × (Nat → Int32) => [(h0, .inr (12, [.ref nw, .ref nk, .int mhasKept, .ref nt, .int mtaped, .ref nr, .int mrowMany, .int mroundOf, .int mroundFrom, .int mouts, .ref nm, .int mfromHour, .int mtoHour, .ref ns, .int mfrom, .int mto, .int msort, .int misFault, .int mdeep, .int mcoded, .int mlines, .ref nl, .ref nc, .ref nF, .ref np, .ref ntr, .ref nb, .int mbestCost, .ref nso, .ref nsi, .ref nit, .ref nsh, .ref nsf, .ref nss, .ref nrc, .int (nI u.1), .int (nI jd), .int mnumber, .int mwhose, .int msize, .int u.2.1])), (nrc, .inl (G.2.1, 30, .inl u.2.2))]) := by
  refine MI.start (by decide +kernel) (Nat.le_of_ble_eq_true rfl) ?_
  intro p e s m below meth c A ls hC hK hP hD hS hA hl
  have hl : lv_has ls 6 [(0, .ref h0), (1, .int 4), (2, .int 2), (3, .int xx)] := hl
  obtain ⟨hx, hb, hr, hml, hB, hown, hlocks, hnm⟩ := id hC
  refine lv_iconst (v := 4) hx hb dX12_body_0 (by decide) ?_
  refine lv_iload_n hx hb dX12_body_1 rfl (lv_at hl 1 rfl) ?_
  refine lv_imul hx hb dX12_body_2 ?_
  refine eqi (x1 := 16) (by decide) ?_
  refine lv_iload_n hx hb dX12_body_3 rfl (lv_at hl 2 rfl) ?_
  refine lv_iadd hx hb dX12_body_4 ?_
  refine eqi (x1 := 18) (by decide) ?_
  refine lv_tableIn (tgt := 293) hx hb dX12_body_5 (by decide) (by decide) rfl (by decide) ?_
  refine lv_aload_n hx hb dX12_body_293 rfl (lv_at hl 0 rfl) ?_
  refine lv_bipush (v := 51) hx hb dX12_body_294 (by decide) ?_
  refine vV (wr := []) hC hK hl hP hD hS hA (m_began l G h0 51 nw nk mhasKept nt mtaped nr mrowMany mroundOf mroundFrom mouts nm mfromHour mtoHour ns mfrom mto msort misFault mdeep mcoded mlines nl nc nF np ntr nb mbestCost nso nsi nit nsh nsf nss nrc jr (nI jd) mnumber mwhose msize misParted fnrc (by omega)) si_X12_366 [0, 1] [] rfl rfl (by decide) rfl (by decide) (by decide) rfl rfl rfl rfl rfl (Nat.le_of_ble_eq_true rfl) ⟨Nat.le_of_ble_eq_true rfl, Nat.le_of_ble_eq_true rfl⟩ ⟨Nat.le_of_ble_eq_true rfl, Nat.le_of_ble_eq_true rfl⟩ dX12_body_296 (fun u5871 H locs hr5870 hP hD hS => ?_)
  obtain ⟨jr15872, gtrc5873⟩ := u5871
  try dsimp only at hr5870
  have hP : va_P G.1 vwCl [(h0, .inr (12, [.ref nw, .ref nk, .int mhasKept, .ref nt, .int mtaped, .ref nr, .int mrowMany, .int mroundOf, .int mroundFrom, .int mouts, .ref nm, .int mfromHour, .int mtoHour, .ref ns, .int mfrom, .int mto, .int msort, .int misFault, .int mdeep, .int mcoded, .int mlines, .ref nl, .ref nc, .ref nF, .ref np, .ref ntr, .ref nb, .int mbestCost, .ref nso, .ref nsi, .ref nit, .ref nsh, .ref nsf, .ref nss, .ref nrc, .int (nI jr15872), .int (nI jd), .int mnumber, .int mwhose, .int msize, .int misParted])), (nrc, .inl (G.2.1, 30, .inl gtrc5873))] H := hP
  have hD : va_D A [(h0, .inr (12, [.ref nw, .ref nk, .int mhasKept, .ref nt, .int mtaped, .ref nr, .int mrowMany, .int mroundOf, .int mroundFrom, .int mouts, .ref nm, .int mfromHour, .int mtoHour, .ref ns, .int mfrom, .int mto, .int msort, .int misFault, .int mdeep, .int mcoded, .int mlines, .ref nl, .ref nc, .ref nF, .ref np, .ref ntr, .ref nb, .int mbestCost, .ref nso, .ref nsi, .ref nit, .ref nsh, .ref nsf, .ref nss, .ref nrc, .int (nI jr15872), .int (nI jd), .int mnumber, .int mwhose, .int msize, .int misParted])), (nrc, .inl (G.2.1, 30, .inl gtrc5873))] := hD
  have w5874 := hr5870
  refine lv_aload_n hx hb dX12_body_299 rfl (lv_at hl 0 rfl) ?_
  refine lv_iconst (v := 0) hx hb dX12_body_300 (by decide) ?_
  refine lv_iconst (v := 2) hx hb dX12_body_301 (by decide) ?_
  refine lv_iload_n hx hb dX12_body_302 rfl (lv_at hl 3 rfl) ?_
  refine iV (wr := []) hC hK hl hP hD hS hA (m_from02 l G h0 xx nw nk mhasKept nt mtaped nr mrowMany mroundOf mroundFrom mouts nm mfromHour mtoHour ns mfrom mto msort misFault mdeep mcoded mlines nl nc nF np ntr nb mbestCost nso nsi nit nsh nsf nss nrc jr15872 jd mnumber mwhose msize misParted gtrc5873 (by omega) (by omega)) si_X12_357 [0, 1] [] rfl rfl (by decide) rfl (by decide) (by decide) rfl rfl rfl rfl rfl (Nat.le_of_ble_eq_true rfl) ⟨Nat.le_of_ble_eq_true rfl, Nat.le_of_ble_eq_true rfl⟩ ⟨Nat.le_of_ble_eq_true rfl, Nat.le_of_ble_eq_true rfl⟩ dX12_body_303 (fun r5875 u5876 H locs hr5875 hP hD hS => ?_)
  obtain ⟨jr15877, ip15878, gtrc5879⟩ := u5876
  try dsimp only at hr5875
  have hP : va_P G.1 vwCl [(h0, .inr (12, [.ref nw, .ref nk, .int mhasKept, .ref nt, .int mtaped, .ref nr, .int mrowMany, .int mroundOf, .int mroundFrom, .int mouts, .ref nm, .int mfromHour, .int mtoHour, .ref ns, .int mfrom, .int mto, .int msort, .int misFault, .int mdeep, .int mcoded, .int mlines, .ref nl, .ref nc, .ref nF, .ref np, .ref ntr, .ref nb, .int mbestCost, .ref nso, .ref nsi, .ref nit, .ref nsh, .ref nsf, .ref nss, .ref nrc, .int (nI jr15877), .int (nI jd), .int mnumber, .int mwhose, .int msize, .int ip15878])), (nrc, .inl (G.2.1, 30, .inl gtrc5879))] H := hP
  have hD : va_D A [(h0, .inr (12, [.ref nw, .ref nk, .int mhasKept, .ref nt, .int mtaped, .ref nr, .int mrowMany, .int mroundOf, .int mroundFrom, .int mouts, .ref nm, .int mfromHour, .int mtoHour, .ref ns, .int mfrom, .int mto, .int msort, .int misFault, .int mdeep, .int mcoded, .int mlines, .ref nl, .ref nc, .ref nF, .ref np, .ref ntr, .ref nb, .int mbestCost, .ref nso, .ref nsi, .ref nit, .ref nsh, .ref nsf, .ref nss, .ref nrc, .int (nI jr15877), .int (nI jd), .int mnumber, .int mwhose, .int msize, .int ip15878])), (nrc, .inl (G.2.1, 30, .inl gtrc5879))] := hD
  obtain ⟨hr5875, w5880⟩ := hr5875
  refine lv_istore (lv' := [(4, .int r5875), (0, .ref h0), (1, .int 4), (2, .int 2), (3, .int xx)]) hx hb dX12_body_306 hl (by decide) rfl (fun ls hl => ?_)
  refine lv_iload hx hb dX12_body_308 (lv_at hl 0 rfl) ?_
  refine lv_aload_n hx hb dX12_body_310 rfl (lv_at hl 1 rfl) ?_
  refine lv_iconst (v := 1) hx hb dX12_body_311 (by decide) ?_
  refine lv_iconst (v := 1) hx hb dX12_body_312 (by decide) ?_
  refine iV (wr := []) hC hK hl hP hD hS hA (m_dealt1 l G h0 1 nw nk mhasKept nt mtaped nr mrowMany mroundOf mroundFrom mouts nm mfromHour mtoHour ns mfrom mto msort misFault mdeep mcoded mlines nl nc nF np ntr nb mbestCost nso nsi nit nsh nsf nss nrc jr15877 jd mnumber mwhose msize ip15878 gtrc5879 (by omega) (by omega)) si_X12_372 [0, 1] [] rfl rfl (by decide) rfl (by decide) (by decide) rfl rfl rfl rfl rfl (Nat.le_of_ble_eq_true rfl) ⟨Nat.le_of_ble_eq_true rfl, Nat.le_of_ble_eq_true rfl⟩ ⟨Nat.le_of_ble_eq_true rfl, Nat.le_of_ble_eq_true rfl⟩ dX12_body_313 (fun r5881 u5882 H locs hr5881 hP hD hS => ?_)
  obtain ⟨jr15883, ip15884, gtrc5885⟩ := u5882
  try dsimp only at hr5881
  have hP : va_P G.1 vwCl [(h0, .inr (12, [.ref nw, .ref nk, .int mhasKept, .ref nt, .int mtaped, .ref nr, .int mrowMany, .int mroundOf, .int mroundFrom, .int mouts, .ref nm, .int mfromHour, .int mtoHour, .ref ns, .int mfrom, .int mto, .int msort, .int misFault, .int mdeep, .int mcoded, .int mlines, .ref nl, .ref nc, .ref nF, .ref np, .ref ntr, .ref nb, .int mbestCost, .ref nso, .ref nsi, .ref nit, .ref nsh, .ref nsf, .ref nss, .ref nrc, .int (nI jr15883), .int (nI jd), .int mnumber, .int mwhose, .int msize, .int ip15884])), (nrc, .inl (G.2.1, 30, .inl gtrc5885))] H := hP
  have hD : va_D A [(h0, .inr (12, [.ref nw, .ref nk, .int mhasKept, .ref nt, .int mtaped, .ref nr, .int mrowMany, .int mroundOf, .int mroundFrom, .int mouts, .ref nm, .int mfromHour, .int mtoHour, .ref ns, .int mfrom, .int mto, .int msort, .int misFault, .int mdeep, .int mcoded, .int mlines, .ref nl, .ref nc, .ref nF, .ref np, .ref ntr, .ref nb, .int mbestCost, .ref nso, .ref nsi, .ref nit, .ref nsh, .ref nsf, .ref nss, .ref nrc, .int (nI jr15883), .int (nI jd), .int mnumber, .int mwhose, .int msize, .int ip15884])), (nrc, .inl (G.2.1, 30, .inl gtrc5885))] := hD
  obtain ⟨hr5881, w5886⟩ := hr5881
  refine lv_iadd hx hb dX12_body_316 ?_
  exact RI (v := r5875 + r5881) hC hP hD hS [0, 1] (jr15883, ip15884, gtrc5885) rfl rfl (by decide) (⟨trivial, by omega⟩) rfl dX12_body_317
set_option maxHeartbeats 4000000 in
set_option maxRecDepth 100000 in
theorem m_from42 (l : Launch) (G : GG) (h0 : Nat) (xx : Int32) (nw : Nat) (nk : Nat) (mhasKept : Int32) (nt : Nat) (mtaped : Int32) (nr : Nat) (mrowMany : Int32) (mroundOf : Int32) (mroundFrom : Int32) (mouts : Int32) (nm : Nat) (mfromHour : Int32) (mtoHour : Int32) (ns : Nat) (mfrom : Int32) (mto : Int32) (msort : Int32) (misFault : Int32) (mdeep : Int32) (mcoded : Int32) (mlines : Int32) (nl : Nat) (nc : Nat) (nF : Nat) (np : Nat) (ntr : Nat) (nb : Nat) (mbestCost : Int32) (nso : Nat) (nsi : Nat) (nit : Nat) (nsh : Nat) (nsf : Nat) (nss : Nat) (nrc : Nat) (jr : Nat) (jd : Nat) (mnumber : Int32) (mwhose : Int32) (msize : Int32) (misParted : Int32) (fnrc : Nat → Int32) (hjr : jr ≤ 30) (hjd : jd < 7) : MI l G yX12_bodyFrom cX12_bodyFrom 5 (some .int) 32 0 0 [.ref h0, .int 4, .int 2, .int xx] [(h0, .inr (12, [.ref nw, .ref nk, .int mhasKept, .ref nt, .int mtaped, .ref nr, .int mrowMany, .int mroundOf, .int mroundFrom, .int mouts, .ref nm, .int mfromHour, .int mtoHour, .ref ns, .int mfrom, .int mto, .int msort, .int misFault, .int mdeep, .int mcoded, .int mlines, .ref nl, .ref nc, .ref nF, .ref np, .ref ntr, .ref nb, .int mbestCost, .ref nso, .ref nsi, .ref nit, .ref nsh, .ref nsf, .ref nss, .ref nrc, .int (nI jr), .int (nI jd), .int mnumber, .int mwhose, .int msize, .int misParted])), (nrc, .inl (G.2.1, 30, .inl fnrc))] (fun (r : Int32) (u : Nat × Int32 × (Nat → Int32)) => (True) ∧ (u.1 ≤ 30)) (fun u : Nat × Int32 × (Nat → Int32) => [(h0, .inr (12, [.ref nw, .ref nk, .int mhasKept, .ref nt, .int mtaped, .ref nr, .int mrowMany, .int mroundOf, .int mroundFrom, .int mouts, .ref nm, .int mfromHour, .int mtoHour, .ref ns, .int mfrom, .int mto, .int msort, .int misFault, .int mdeep, .int mcoded, .int mlines, .ref nl, .ref nc, .ref nF, .ref np, .ref ntr, .ref nb, .int mbestCost, .ref nso, .ref nsi, .ref nit, .ref nsh, .ref nsf, .ref nss, .ref nrc, .int (nI u.1), .int (nI jd), .int mnumber, .int mwhose, .int msize, .int u.2.1])), (nrc, .inl (G.2.1, 30, .inl u.2.2))]) := by
  refine MI.start (by decide +kernel) (Nat.le_of_ble_eq_true rfl) ?_
  intro p e s m below meth c A ls hC hK hP hD hS hA hl
  have hl : lv_has ls 5 [(0, .ref h0), (1, .int 4), (2, .int 2), (3, .int xx)] := hl
  obtain ⟨hx, hb, hr, hml, hB, hown, hlocks, hnm⟩ := id hC
  refine lv_iload_n hx hb dX12_bodyFrom_0 rfl (lv_at hl 1 rfl) ?_
  refine lv_istore (lv' := [(4, .int 4), (0, .ref h0), (1, .int 4), (2, .int 2), (3, .int xx)]) hx hb dX12_bodyFrom_1 hl (by decide) rfl (fun ls hl => ?_)
  refine lv_iload hx hb dX12_bodyFrom_3 (lv_at hl 0 rfl) ?_
  refine lv_iload_n hx hb dX12_bodyFrom_5 rfl (lv_at hl 3 rfl) ?_
  refine pS hC hK hl (m_hasOwn42 l G) si_X12_360 rfl rfl (Nat.le_of_ble_eq_true rfl) ⟨Nat.le_of_ble_eq_true rfl, Nat.le_of_ble_eq_true rfl⟩ ⟨by first | exact Nat.le_of_ble_eq_true rfl | exact Nat.zero_le _, by first | exact Nat.le_of_ble_eq_true rfl | exact Nat.zero_le _⟩ dX12_bodyFrom_6 (fun r5887 hr5887 => ?_)
  obtain rfl := hr5887
  refine lv_if_ne (tgt := 22) hx hb dX12_bodyFrom_9 (by decide) (fun _ => ?_) (fun c9 => absurd c9 (by decide))
  refine lv_aload_n hx hb dX12_bodyFrom_22 rfl (lv_at hl 1 rfl) ?_
  refine lv_iload hx hb dX12_bodyFrom_23 (lv_at hl 0 rfl) ?_
  refine lv_iload_n hx hb dX12_bodyFrom_25 rfl (lv_at hl 3 rfl) ?_
  refine lv_iload_n hx hb dX12_bodyFrom_26 rfl (lv_at hl 4 rfl) ?_
  refine iV (wr := []) hC hK hl hP hD hS hA (m_body42 l G h0 xx nw nk mhasKept nt mtaped nr mrowMany mroundOf mroundFrom mouts nm mfromHour mtoHour ns mfrom mto msort misFault mdeep mcoded mlines nl nc nF np ntr nb mbestCost nso nsi nit nsh nsf nss nrc jr jd mnumber mwhose msize misParted fnrc (by omega) (by omega)) si_X12_363 [0, 1] [] rfl rfl (by decide) rfl (by decide) (by decide) rfl rfl rfl rfl rfl (Nat.le_of_ble_eq_true rfl) ⟨Nat.le_of_ble_eq_true rfl, Nat.le_of_ble_eq_true rfl⟩ ⟨Nat.le_of_ble_eq_true rfl, Nat.le_of_ble_eq_true rfl⟩ dX12_bodyFrom_27 (fun r5889 u5890 H locs hr5889 hP hD hS => ?_)
  obtain ⟨jr15891, ip15892, gtrc5893⟩ := u5890
  try dsimp only at hr5889
  have hP : va_P G.1 vwCl [(h0, .inr (12, [.ref nw, .ref nk, .int mhasKept, .ref nt, .int mtaped, .ref nr, .int mrowMany, .int mroundOf, .int mroundFrom, .int mouts, .ref nm, .int mfromHour, .int mtoHour, .ref ns, .int mfrom, .int mto, .int msort, .int misFault, .int mdeep, .int mcoded, .int mlines, .ref nl, .ref nc, .ref nF, .ref np, .ref ntr, .ref nb, .int mbestCost, .ref nso, .ref nsi, .ref nit, .ref nsh, .ref nsf, .ref nss, .ref nrc, .int (nI jr15891), .int (nI jd), .int mnumber, .int mwhose, .int msize, .int ip15892])), (nrc, .inl (G.2.1, 30, .inl gtrc5893))] H := hP
  have hD : va_D A [(h0, .inr (12, [.ref nw, .ref nk, .int mhasKept, .ref nt, .int mtaped, .ref nr, .int mrowMany, .int mroundOf, .int mroundFrom, .int mouts, .ref nm, .int mfromHour, .int mtoHour, .ref ns, .int mfrom, .int mto, .int msort, .int misFault, .int mdeep, .int mcoded, .int mlines, .ref nl, .ref nc, .ref nF, .ref np, .ref ntr, .ref nb, .int mbestCost, .ref nso, .ref nsi, .ref nit, .ref nsh, .ref nsf, .ref nss, .ref nrc, .int (nI jr15891), .int (nI jd), .int mnumber, .int mwhose, .int msize, .int ip15892])), (nrc, .inl (G.2.1, 30, .inl gtrc5893))] := hD
  obtain ⟨hr5889, w5894⟩ := hr5889
  exact RI (v := r5889) hC hP hD hS [0, 1] (jr15891, ip15892, gtrc5893) rfl rfl (by decide) (⟨trivial, by omega⟩) rfl dX12_bodyFrom_30
set_option maxHeartbeats 4000000 in
set_option maxRecDepth 100000 in
theorem m_body52 (l : Launch) (G : GG) (h0 : Nat) (xx : Int32) (nw : Nat) (nk : Nat) (mhasKept : Int32) (nt : Nat) (mtaped : Int32) (nr : Nat) (mrowMany : Int32) (mroundOf : Int32) (mroundFrom : Int32) (mouts : Int32) (nm : Nat) (mfromHour : Int32) (mtoHour : Int32) (ns : Nat) (mfrom : Int32) (mto : Int32) (msort : Int32) (misFault : Int32) (mdeep : Int32) (mcoded : Int32) (mlines : Int32) (nl : Nat) (nc : Nat) (nF : Nat) (np : Nat) (ntr : Nat) (nb : Nat) (mbestCost : Int32) (nso : Nat) (nsi : Nat) (nit : Nat) (nsh : Nat) (nsf : Nat) (nss : Nat) (nrc : Nat) (jr : Nat) (jd : Nat) (mnumber : Int32) (mwhose : Int32) (msize : Int32) (misParted : Int32) (fnrc : Nat → Int32) (hjr : jr ≤ 30) (hjd : jd < 7) : MI l G yX12_body cX12_body 6 (some .int) 33 0 0 [.ref h0, .int 5, .int 2, .int xx] [(h0, .inr (12, [.ref nw, .ref nk, .int mhasKept, .ref nt, .int mtaped, .ref nr, .int mrowMany, .int mroundOf, .int mroundFrom, .int mouts, .ref nm, .int mfromHour, .int mtoHour, .ref ns, .int mfrom, .int mto, .int msort, .int misFault, .int mdeep, .int mcoded, .int mlines, .ref nl, .ref nc, .ref nF, .ref np, .ref ntr, .ref nb, .int mbestCost, .ref nso, .ref nsi, .ref nit, .ref nsh, .ref nsf, .ref nss, .ref nrc, .int (nI jr), .int (nI jd), .int mnumber, .int mwhose, .int msize, .int misParted])), (nrc, .inl (G.2.1, 30, .inl fnrc))] (fun (r : Int32) (u : Nat × Int32 × (Nat → Int32)) => (True) ∧ (u.1 ≤ 30)) (fun u : Nat × Int32 × (Nat → Int32) => [(h0, .inr (12, [.ref nw, .ref nk, .int mhasKept, .ref nt, .int mtaped, .ref nr, .int mrowMany, .int mroundOf, .int mroundFrom, .int mouts, .ref nm, .int mfromHour, .int mtoHour, .ref ns, .int mfrom, .int mto, .int msort, .int misFault, .int mdeep, .int mcoded, .int mlines, .ref nl, .ref nc, .ref nF, .ref np, .ref ntr, .ref nb, .int mbestCost, .ref nso, .ref nsi, .ref nit, .ref nsh, .ref nsf, .ref nss, .ref nrc, .int (nI u.1), .int (nI jd), .int mnumber, .int mwhose, .int msize, .int u.2.1])), (nrc, .inl (G.2.1, 30, .inl u.2.2))]) := by
  refine MI.start (by decide +kernel) (Nat.le_of_ble_eq_true rfl) ?_
  intro p e s m below meth c A ls hC hK hP hD hS hA hl
  have hl : lv_has ls 6 [(0, .ref h0), (1, .int 5), (2, .int 2), (3, .int xx)] := hl
  obtain ⟨hx, hb, hr, hml, hB, hown, hlocks, hnm⟩ := id hC
  refine lv_iconst (v := 4) hx hb dX12_body_0 (by decide) ?_
  refine lv_iload_n hx hb dX12_body_1 rfl (lv_at hl 1 rfl) ?_
  refine lv_imul hx hb dX12_body_2 ?_
  refine eqi (x1 := 20) (by decide) ?_
  refine lv_iload_n hx hb dX12_body_3 rfl (lv_at hl 2 rfl) ?_
  refine lv_iadd hx hb dX12_body_4 ?_
  refine eqi (x1 := 22) (by decide) ?_
  refine lv_tableIn (tgt := 318) hx hb dX12_body_5 (by decide) (by decide) rfl (by decide) ?_
  refine lv_aload_n hx hb dX12_body_318 rfl (lv_at hl 0 rfl) ?_
  refine lv_bipush (v := 60) hx hb dX12_body_319 (by decide) ?_
  refine vV (wr := []) hC hK hl hP hD hS hA (m_began l G h0 60 nw nk mhasKept nt mtaped nr mrowMany mroundOf mroundFrom mouts nm mfromHour mtoHour ns mfrom mto msort misFault mdeep mcoded mlines nl nc nF np ntr nb mbestCost nso nsi nit nsh nsf nss nrc jr (nI jd) mnumber mwhose msize misParted fnrc (by omega)) si_X12_366 [0, 1] [] rfl rfl (by decide) rfl (by decide) (by decide) rfl rfl rfl rfl rfl (Nat.le_of_ble_eq_true rfl) ⟨Nat.le_of_ble_eq_true rfl, Nat.le_of_ble_eq_true rfl⟩ ⟨Nat.le_of_ble_eq_true rfl, Nat.le_of_ble_eq_true rfl⟩ dX12_body_321 (fun u5896 H locs hr5895 hP hD hS => ?_)
  obtain ⟨jr15897, gtrc5898⟩ := u5896
  try dsimp only at hr5895
  have hP : va_P G.1 vwCl [(h0, .inr (12, [.ref nw, .ref nk, .int mhasKept, .ref nt, .int mtaped, .ref nr, .int mrowMany, .int mroundOf, .int mroundFrom, .int mouts, .ref nm, .int mfromHour, .int mtoHour, .ref ns, .int mfrom, .int mto, .int msort, .int misFault, .int mdeep, .int mcoded, .int mlines, .ref nl, .ref nc, .ref nF, .ref np, .ref ntr, .ref nb, .int mbestCost, .ref nso, .ref nsi, .ref nit, .ref nsh, .ref nsf, .ref nss, .ref nrc, .int (nI jr15897), .int (nI jd), .int mnumber, .int mwhose, .int msize, .int misParted])), (nrc, .inl (G.2.1, 30, .inl gtrc5898))] H := hP
  have hD : va_D A [(h0, .inr (12, [.ref nw, .ref nk, .int mhasKept, .ref nt, .int mtaped, .ref nr, .int mrowMany, .int mroundOf, .int mroundFrom, .int mouts, .ref nm, .int mfromHour, .int mtoHour, .ref ns, .int mfrom, .int mto, .int msort, .int misFault, .int mdeep, .int mcoded, .int mlines, .ref nl, .ref nc, .ref nF, .ref np, .ref ntr, .ref nb, .int mbestCost, .ref nso, .ref nsi, .ref nit, .ref nsh, .ref nsf, .ref nss, .ref nrc, .int (nI jr15897), .int (nI jd), .int mnumber, .int mwhose, .int msize, .int misParted])), (nrc, .inl (G.2.1, 30, .inl gtrc5898))] := hD
  have w5899 := hr5895
  refine lv_aload_n hx hb dX12_body_324 rfl (lv_at hl 0 rfl) ?_
  refine lv_iconst (v := 4) hx hb dX12_body_325 (by decide) ?_
  refine lv_iconst (v := 2) hx hb dX12_body_326 (by decide) ?_
  refine lv_iload_n hx hb dX12_body_327 rfl (lv_at hl 3 rfl) ?_
  refine iV (wr := []) hC hK hl hP hD hS hA (m_from42 l G h0 xx nw nk mhasKept nt mtaped nr mrowMany mroundOf mroundFrom mouts nm mfromHour mtoHour ns mfrom mto msort misFault mdeep mcoded mlines nl nc nF np ntr nb mbestCost nso nsi nit nsh nsf nss nrc jr15897 jd mnumber mwhose msize misParted gtrc5898 (by omega) (by omega)) si_X12_357 [0, 1] [] rfl rfl (by decide) rfl (by decide) (by decide) rfl rfl rfl rfl rfl (Nat.le_of_ble_eq_true rfl) ⟨Nat.le_of_ble_eq_true rfl, Nat.le_of_ble_eq_true rfl⟩ ⟨Nat.le_of_ble_eq_true rfl, Nat.le_of_ble_eq_true rfl⟩ dX12_body_328 (fun r5900 u5901 H locs hr5900 hP hD hS => ?_)
  obtain ⟨jr15902, ip15903, gtrc5904⟩ := u5901
  try dsimp only at hr5900
  have hP : va_P G.1 vwCl [(h0, .inr (12, [.ref nw, .ref nk, .int mhasKept, .ref nt, .int mtaped, .ref nr, .int mrowMany, .int mroundOf, .int mroundFrom, .int mouts, .ref nm, .int mfromHour, .int mtoHour, .ref ns, .int mfrom, .int mto, .int msort, .int misFault, .int mdeep, .int mcoded, .int mlines, .ref nl, .ref nc, .ref nF, .ref np, .ref ntr, .ref nb, .int mbestCost, .ref nso, .ref nsi, .ref nit, .ref nsh, .ref nsf, .ref nss, .ref nrc, .int (nI jr15902), .int (nI jd), .int mnumber, .int mwhose, .int msize, .int ip15903])), (nrc, .inl (G.2.1, 30, .inl gtrc5904))] H := hP
  have hD : va_D A [(h0, .inr (12, [.ref nw, .ref nk, .int mhasKept, .ref nt, .int mtaped, .ref nr, .int mrowMany, .int mroundOf, .int mroundFrom, .int mouts, .ref nm, .int mfromHour, .int mtoHour, .ref ns, .int mfrom, .int mto, .int msort, .int misFault, .int mdeep, .int mcoded, .int mlines, .ref nl, .ref nc, .ref nF, .ref np, .ref ntr, .ref nb, .int mbestCost, .ref nso, .ref nsi, .ref nit, .ref nsh, .ref nsf, .ref nss, .ref nrc, .int (nI jr15902), .int (nI jd), .int mnumber, .int mwhose, .int msize, .int ip15903])), (nrc, .inl (G.2.1, 30, .inl gtrc5904))] := hD
  obtain ⟨hr5900, w5905⟩ := hr5900
  refine lv_iconst (v := 2) hx hb dX12_body_331 (by decide) ?_
  refine lv_imul hx hb dX12_body_332 ?_
  exact RI (v := r5900 * 2) hC hP hD hS [0, 1] (jr15902, ip15903, gtrc5904) rfl rfl (by decide) (⟨trivial, by omega⟩) rfl dX12_body_333
set_option maxHeartbeats 4000000 in
set_option maxRecDepth 100000 in
theorem m_from52 (l : Launch) (G : GG) (h0 : Nat) (xx : Int32) (nw : Nat) (nk : Nat) (mhasKept : Int32) (nt : Nat) (mtaped : Int32) (nr : Nat) (mrowMany : Int32) (mroundOf : Int32) (mroundFrom : Int32) (mouts : Int32) (nm : Nat) (mfromHour : Int32) (mtoHour : Int32) (ns : Nat) (mfrom : Int32) (mto : Int32) (msort : Int32) (misFault : Int32) (mdeep : Int32) (mcoded : Int32) (mlines : Int32) (nl : Nat) (nc : Nat) (nF : Nat) (np : Nat) (ntr : Nat) (nb : Nat) (mbestCost : Int32) (nso : Nat) (nsi : Nat) (nit : Nat) (nsh : Nat) (nsf : Nat) (nss : Nat) (nrc : Nat) (jr : Nat) (jd : Nat) (mnumber : Int32) (mwhose : Int32) (msize : Int32) (misParted : Int32) (fnrc : Nat → Int32) (hjr : jr ≤ 30) (hjd : jd < 7) : MI l G yX12_bodyFrom cX12_bodyFrom 5 (some .int) 34 0 0 [.ref h0, .int 5, .int 2, .int xx] [(h0, .inr (12, [.ref nw, .ref nk, .int mhasKept, .ref nt, .int mtaped, .ref nr, .int mrowMany, .int mroundOf, .int mroundFrom, .int mouts, .ref nm, .int mfromHour, .int mtoHour, .ref ns, .int mfrom, .int mto, .int msort, .int misFault, .int mdeep, .int mcoded, .int mlines, .ref nl, .ref nc, .ref nF, .ref np, .ref ntr, .ref nb, .int mbestCost, .ref nso, .ref nsi, .ref nit, .ref nsh, .ref nsf, .ref nss, .ref nrc, .int (nI jr), .int (nI jd), .int mnumber, .int mwhose, .int msize, .int misParted])), (nrc, .inl (G.2.1, 30, .inl fnrc))] (fun (r : Int32) (u : Nat × Int32 × (Nat → Int32)) => (True) ∧ (u.1 ≤ 30)) (fun u : Nat × Int32 × (Nat → Int32) => [(h0, .inr (12, [.ref nw, .ref nk, .int mhasKept, .ref nt, .int mtaped, .ref nr, .int mrowMany, .int mroundOf, .int mroundFrom, .int mouts, .ref nm, .int mfromHour, .int mtoHour, .ref ns, .int mfrom, .int mto, .int msort, .int misFault, .int mdeep, .int mcoded, .int mlines, .ref nl, .ref nc, .ref nF, .ref np, .ref ntr, .ref nb, .int mbestCost, .ref nso, .ref nsi, .ref nit, .ref nsh, .ref nsf, .ref nss, .ref nrc, .int (nI u.1), .int (nI jd), .int mnumber, .int mwhose, .int msize, .int u.2.1])), (nrc, .inl (G.2.1, 30, .inl u.2.2))]) := by
  refine MI.start (by decide +kernel) (Nat.le_of_ble_eq_true rfl) ?_
  intro p e s m below meth c A ls hC hK hP hD hS hA hl
  have hl : lv_has ls 5 [(0, .ref h0), (1, .int 5), (2, .int 2), (3, .int xx)] := hl
  obtain ⟨hx, hb, hr, hml, hB, hown, hlocks, hnm⟩ := id hC
  refine lv_iload_n hx hb dX12_bodyFrom_0 rfl (lv_at hl 1 rfl) ?_
  refine lv_istore (lv' := [(4, .int 5), (0, .ref h0), (1, .int 5), (2, .int 2), (3, .int xx)]) hx hb dX12_bodyFrom_1 hl (by decide) rfl (fun ls hl => ?_)
  refine lv_iload hx hb dX12_bodyFrom_3 (lv_at hl 0 rfl) ?_
  refine lv_iload_n hx hb dX12_bodyFrom_5 rfl (lv_at hl 3 rfl) ?_
  refine pS hC hK hl (m_hasOwn52 l G) si_X12_360 rfl rfl (Nat.le_of_ble_eq_true rfl) ⟨Nat.le_of_ble_eq_true rfl, Nat.le_of_ble_eq_true rfl⟩ ⟨by first | exact Nat.le_of_ble_eq_true rfl | exact Nat.zero_le _, by first | exact Nat.le_of_ble_eq_true rfl | exact Nat.zero_le _⟩ dX12_bodyFrom_6 (fun r5906 hr5906 => ?_)
  obtain rfl := hr5906
  refine lv_if_ne (tgt := 22) hx hb dX12_bodyFrom_9 (by decide) (fun _ => ?_) (fun c9 => absurd c9 (by decide))
  refine lv_aload_n hx hb dX12_bodyFrom_22 rfl (lv_at hl 1 rfl) ?_
  refine lv_iload hx hb dX12_bodyFrom_23 (lv_at hl 0 rfl) ?_
  refine lv_iload_n hx hb dX12_bodyFrom_25 rfl (lv_at hl 3 rfl) ?_
  refine lv_iload_n hx hb dX12_bodyFrom_26 rfl (lv_at hl 4 rfl) ?_
  refine iV (wr := []) hC hK hl hP hD hS hA (m_body52 l G h0 xx nw nk mhasKept nt mtaped nr mrowMany mroundOf mroundFrom mouts nm mfromHour mtoHour ns mfrom mto msort misFault mdeep mcoded mlines nl nc nF np ntr nb mbestCost nso nsi nit nsh nsf nss nrc jr jd mnumber mwhose msize misParted fnrc (by omega) (by omega)) si_X12_363 [0, 1] [] rfl rfl (by decide) rfl (by decide) (by decide) rfl rfl rfl rfl rfl (Nat.le_of_ble_eq_true rfl) ⟨Nat.le_of_ble_eq_true rfl, Nat.le_of_ble_eq_true rfl⟩ ⟨Nat.le_of_ble_eq_true rfl, Nat.le_of_ble_eq_true rfl⟩ dX12_bodyFrom_27 (fun r5908 u5909 H locs hr5908 hP hD hS => ?_)
  obtain ⟨jr15910, ip15911, gtrc5912⟩ := u5909
  try dsimp only at hr5908
  have hP : va_P G.1 vwCl [(h0, .inr (12, [.ref nw, .ref nk, .int mhasKept, .ref nt, .int mtaped, .ref nr, .int mrowMany, .int mroundOf, .int mroundFrom, .int mouts, .ref nm, .int mfromHour, .int mtoHour, .ref ns, .int mfrom, .int mto, .int msort, .int misFault, .int mdeep, .int mcoded, .int mlines, .ref nl, .ref nc, .ref nF, .ref np, .ref ntr, .ref nb, .int mbestCost, .ref nso, .ref nsi, .ref nit, .ref nsh, .ref nsf, .ref nss, .ref nrc, .int (nI jr15910), .int (nI jd), .int mnumber, .int mwhose, .int msize, .int ip15911])), (nrc, .inl (G.2.1, 30, .inl gtrc5912))] H := hP
  have hD : va_D A [(h0, .inr (12, [.ref nw, .ref nk, .int mhasKept, .ref nt, .int mtaped, .ref nr, .int mrowMany, .int mroundOf, .int mroundFrom, .int mouts, .ref nm, .int mfromHour, .int mtoHour, .ref ns, .int mfrom, .int mto, .int msort, .int misFault, .int mdeep, .int mcoded, .int mlines, .ref nl, .ref nc, .ref nF, .ref np, .ref ntr, .ref nb, .int mbestCost, .ref nso, .ref nsi, .ref nit, .ref nsh, .ref nsf, .ref nss, .ref nrc, .int (nI jr15910), .int (nI jd), .int mnumber, .int mwhose, .int msize, .int ip15911])), (nrc, .inl (G.2.1, 30, .inl gtrc5912))] := hD
  obtain ⟨hr5908, w5913⟩ := hr5908
  exact RI (v := r5908) hC hP hD hS [0, 1] (jr15910, ip15911, gtrc5912) rfl rfl (by decide) (⟨trivial, by omega⟩) rfl dX12_bodyFrom_30
set_option maxHeartbeats 4000000 in
set_option maxRecDepth 100000 in
theorem m_from12 (l : Launch) (G : GG) (h0 : Nat) (xx : Int32) (nw : Nat) (nk : Nat) (mhasKept : Int32) (nt : Nat) (mtaped : Int32) (nr : Nat) (mrowMany : Int32) (mroundOf : Int32) (mroundFrom : Int32) (mouts : Int32) (nm : Nat) (mfromHour : Int32) (mtoHour : Int32) (ns : Nat) (mfrom : Int32) (mto : Int32) (msort : Int32) (misFault : Int32) (mdeep : Int32) (mcoded : Int32) (mlines : Int32) (nl : Nat) (nc : Nat) (nF : Nat) (np : Nat) (ntr : Nat) (nb : Nat) (mbestCost : Int32) (nso : Nat) (nsi : Nat) (nit : Nat) (nsh : Nat) (nsf : Nat) (nss : Nat) (nrc : Nat) (jr : Nat) (jd : Nat) (mnumber : Int32) (mwhose : Int32) (msize : Int32) (misParted : Int32) (fnrc : Nat → Int32) (hjr : jr ≤ 30) (hjd : jd < 7) : MI l G yX12_bodyFrom cX12_bodyFrom 5 (some .int) 36 0 0 [.ref h0, .int 1, .int 2, .int xx] [(h0, .inr (12, [.ref nw, .ref nk, .int mhasKept, .ref nt, .int mtaped, .ref nr, .int mrowMany, .int mroundOf, .int mroundFrom, .int mouts, .ref nm, .int mfromHour, .int mtoHour, .ref ns, .int mfrom, .int mto, .int msort, .int misFault, .int mdeep, .int mcoded, .int mlines, .ref nl, .ref nc, .ref nF, .ref np, .ref ntr, .ref nb, .int mbestCost, .ref nso, .ref nsi, .ref nit, .ref nsh, .ref nsf, .ref nss, .ref nrc, .int (nI jr), .int (nI jd), .int mnumber, .int mwhose, .int msize, .int misParted])), (nrc, .inl (G.2.1, 30, .inl fnrc))] (fun (r : Int32) (u : Nat × Int32 × (Nat → Int32)) => (True) ∧ (u.1 ≤ 30)) (fun u : Nat × Int32 × (Nat → Int32) => [(h0, .inr (12, [.ref nw, .ref nk, .int mhasKept, .ref nt, .int mtaped, .ref nr, .int mrowMany, .int mroundOf, .int mroundFrom, .int mouts, .ref nm, .int mfromHour, .int mtoHour, .ref ns, .int mfrom, .int mto, .int msort, .int misFault, .int mdeep, .int mcoded, .int mlines, .ref nl, .ref nc, .ref nF, .ref np, .ref ntr, .ref nb, .int mbestCost, .ref nso, .ref nsi, .ref nit, .ref nsh, .ref nsf, .ref nss, .ref nrc, .int (nI u.1), .int (nI jd), .int mnumber, .int mwhose, .int msize, .int u.2.1])), (nrc, .inl (G.2.1, 30, .inl u.2.2))]) := by
  refine MI.start (by decide +kernel) (Nat.le_of_ble_eq_true rfl) ?_
  intro p e s m below meth c A ls hC hK hP hD hS hA hl
  have hl : lv_has ls 5 [(0, .ref h0), (1, .int 1), (2, .int 2), (3, .int xx)] := hl
  obtain ⟨hx, hb, hr, hml, hB, hown, hlocks, hnm⟩ := id hC
  refine lv_iload_n hx hb dX12_bodyFrom_0 rfl (lv_at hl 1 rfl) ?_
  refine lv_istore (lv' := [(4, .int 1), (0, .ref h0), (1, .int 1), (2, .int 2), (3, .int xx)]) hx hb dX12_bodyFrom_1 hl (by decide) rfl (fun ls hl => ?_)
  refine lv_iload hx hb dX12_bodyFrom_3 (lv_at hl 0 rfl) ?_
  refine lv_iload_n hx hb dX12_bodyFrom_5 rfl (lv_at hl 3 rfl) ?_
  refine pS hC hK hl (m_hasOwn12 l G) si_X12_360 rfl rfl (Nat.le_of_ble_eq_true rfl) ⟨Nat.le_of_ble_eq_true rfl, Nat.le_of_ble_eq_true rfl⟩ ⟨by first | exact Nat.le_of_ble_eq_true rfl | exact Nat.zero_le _, by first | exact Nat.le_of_ble_eq_true rfl | exact Nat.zero_le _⟩ dX12_bodyFrom_6 (fun r5914 hr5914 => ?_)
  obtain rfl := hr5914
  refine lv_if_ne (tgt := 22) hx hb dX12_bodyFrom_9 (by decide) (fun c9 => absurd (by decide) c9) (fun _ => ?_)
  refine lv_iload hx hb dX12_bodyFrom_12 (lv_at hl 0 rfl) ?_
  refine pS hC hK hl (m_above1 l G) si_X12_348 rfl rfl (Nat.le_of_ble_eq_true rfl) ⟨Nat.le_of_ble_eq_true rfl, Nat.le_of_ble_eq_true rfl⟩ ⟨by first | exact Nat.le_of_ble_eq_true rfl | exact Nat.zero_le _, by first | exact Nat.le_of_ble_eq_true rfl | exact Nat.zero_le _⟩ dX12_bodyFrom_14 (fun r5916 hr5916 => ?_)
  obtain rfl := hr5916
  refine lv_istore (lv' := [(4, .int 0), (0, .ref h0), (1, .int 1), (2, .int 2), (3, .int xx)]) hx hb dX12_bodyFrom_17 hl (by decide) rfl (fun ls hl => ?_)
  refine lv_goto (tgt := 3) hx hb dX12_bodyFrom_19 (by decide) ?_
  refine lv_iload hx hb dX12_bodyFrom_3 (lv_at hl 0 rfl) ?_
  refine lv_iload_n hx hb dX12_bodyFrom_5 rfl (lv_at hl 3 rfl) ?_
  refine pS hC hK hl (m_hasOwn02 l G) si_X12_360 rfl rfl (Nat.le_of_ble_eq_true rfl) ⟨Nat.le_of_ble_eq_true rfl, Nat.le_of_ble_eq_true rfl⟩ ⟨by first | exact Nat.le_of_ble_eq_true rfl | exact Nat.zero_le _, by first | exact Nat.le_of_ble_eq_true rfl | exact Nat.zero_le _⟩ dX12_bodyFrom_6 (fun r5918 hr5918 => ?_)
  obtain rfl := hr5918
  refine lv_if_ne (tgt := 22) hx hb dX12_bodyFrom_9 (by decide) (fun _ => ?_) (fun c9 => absurd c9 (by decide))
  refine lv_aload_n hx hb dX12_bodyFrom_22 rfl (lv_at hl 1 rfl) ?_
  refine lv_iload hx hb dX12_bodyFrom_23 (lv_at hl 0 rfl) ?_
  refine lv_iload_n hx hb dX12_bodyFrom_25 rfl (lv_at hl 3 rfl) ?_
  refine lv_iload_n hx hb dX12_bodyFrom_26 rfl (lv_at hl 4 rfl) ?_
  refine iV (wr := []) hC hK hl hP hD hS hA (m_body02 l G h0 xx nw nk mhasKept nt mtaped nr mrowMany mroundOf mroundFrom mouts nm mfromHour mtoHour ns mfrom mto msort misFault mdeep mcoded mlines nl nc nF np ntr nb mbestCost nso nsi nit nsh nsf nss nrc jr jd mnumber mwhose msize misParted fnrc (by omega) (by omega)) si_X12_363 [0, 1] [] rfl rfl (by decide) rfl (by decide) (by decide) rfl rfl rfl rfl rfl (Nat.le_of_ble_eq_true rfl) ⟨Nat.le_of_ble_eq_true rfl, Nat.le_of_ble_eq_true rfl⟩ ⟨Nat.le_of_ble_eq_true rfl, Nat.le_of_ble_eq_true rfl⟩ dX12_bodyFrom_27 (fun r5920 u5921 H locs hr5920 hP hD hS => ?_)
  obtain ⟨jr15922, ip15923, gtrc5924⟩ := u5921
  try dsimp only at hr5920
  have hP : va_P G.1 vwCl [(h0, .inr (12, [.ref nw, .ref nk, .int mhasKept, .ref nt, .int mtaped, .ref nr, .int mrowMany, .int mroundOf, .int mroundFrom, .int mouts, .ref nm, .int mfromHour, .int mtoHour, .ref ns, .int mfrom, .int mto, .int msort, .int misFault, .int mdeep, .int mcoded, .int mlines, .ref nl, .ref nc, .ref nF, .ref np, .ref ntr, .ref nb, .int mbestCost, .ref nso, .ref nsi, .ref nit, .ref nsh, .ref nsf, .ref nss, .ref nrc, .int (nI jr15922), .int (nI jd), .int mnumber, .int mwhose, .int msize, .int ip15923])), (nrc, .inl (G.2.1, 30, .inl gtrc5924))] H := hP
  have hD : va_D A [(h0, .inr (12, [.ref nw, .ref nk, .int mhasKept, .ref nt, .int mtaped, .ref nr, .int mrowMany, .int mroundOf, .int mroundFrom, .int mouts, .ref nm, .int mfromHour, .int mtoHour, .ref ns, .int mfrom, .int mto, .int msort, .int misFault, .int mdeep, .int mcoded, .int mlines, .ref nl, .ref nc, .ref nF, .ref np, .ref ntr, .ref nb, .int mbestCost, .ref nso, .ref nsi, .ref nit, .ref nsh, .ref nsf, .ref nss, .ref nrc, .int (nI jr15922), .int (nI jd), .int mnumber, .int mwhose, .int msize, .int ip15923])), (nrc, .inl (G.2.1, 30, .inl gtrc5924))] := hD
  obtain ⟨hr5920, w5925⟩ := hr5920
  exact RI (v := r5920) hC hP hD hS [0, 1] (jr15922, ip15923, gtrc5924) rfl rfl (by decide) (⟨trivial, by omega⟩) rfl dX12_bodyFrom_30
set_option maxHeartbeats 4000000 in
set_option maxRecDepth 100000 in
theorem m_from32 (l : Launch) (G : GG) (h0 : Nat) (xx : Int32) (nw : Nat) (nk : Nat) (mhasKept : Int32) (nt : Nat) (mtaped : Int32) (nr : Nat) (mrowMany : Int32) (mroundOf : Int32) (mroundFrom : Int32) (mouts : Int32) (nm : Nat) (mfromHour : Int32) (mtoHour : Int32) (ns : Nat) (mfrom : Int32) (mto : Int32) (msort : Int32) (misFault : Int32) (mdeep : Int32) (mcoded : Int32) (mlines : Int32) (nl : Nat) (nc : Nat) (nF : Nat) (np : Nat) (ntr : Nat) (nb : Nat) (mbestCost : Int32) (nso : Nat) (nsi : Nat) (nit : Nat) (nsh : Nat) (nsf : Nat) (nss : Nat) (nrc : Nat) (jr : Nat) (jd : Nat) (mnumber : Int32) (mwhose : Int32) (msize : Int32) (misParted : Int32) (fnrc : Nat → Int32) (hjr : jr ≤ 30) (hjd : jd < 7) : MI l G yX12_bodyFrom cX12_bodyFrom 5 (some .int) 36 0 0 [.ref h0, .int 3, .int 2, .int xx] [(h0, .inr (12, [.ref nw, .ref nk, .int mhasKept, .ref nt, .int mtaped, .ref nr, .int mrowMany, .int mroundOf, .int mroundFrom, .int mouts, .ref nm, .int mfromHour, .int mtoHour, .ref ns, .int mfrom, .int mto, .int msort, .int misFault, .int mdeep, .int mcoded, .int mlines, .ref nl, .ref nc, .ref nF, .ref np, .ref ntr, .ref nb, .int mbestCost, .ref nso, .ref nsi, .ref nit, .ref nsh, .ref nsf, .ref nss, .ref nrc, .int (nI jr), .int (nI jd), .int mnumber, .int mwhose, .int msize, .int misParted])), (nrc, .inl (G.2.1, 30, .inl fnrc))] (fun (r : Int32) (u : Nat × Int32 × (Nat → Int32)) => (True) ∧ (u.1 ≤ 30)) (fun u : Nat × Int32 × (Nat → Int32) => [(h0, .inr (12, [.ref nw, .ref nk, .int mhasKept, .ref nt, .int mtaped, .ref nr, .int mrowMany, .int mroundOf, .int mroundFrom, .int mouts, .ref nm, .int mfromHour, .int mtoHour, .ref ns, .int mfrom, .int mto, .int msort, .int misFault, .int mdeep, .int mcoded, .int mlines, .ref nl, .ref nc, .ref nF, .ref np, .ref ntr, .ref nb, .int mbestCost, .ref nso, .ref nsi, .ref nit, .ref nsh, .ref nsf, .ref nss, .ref nrc, .int (nI u.1), .int (nI jd), .int mnumber, .int mwhose, .int msize, .int u.2.1])), (nrc, .inl (G.2.1, 30, .inl u.2.2))]) := by
  refine MI.start (by decide +kernel) (Nat.le_of_ble_eq_true rfl) ?_
  intro p e s m below meth c A ls hC hK hP hD hS hA hl
  have hl : lv_has ls 5 [(0, .ref h0), (1, .int 3), (2, .int 2), (3, .int xx)] := hl
  obtain ⟨hx, hb, hr, hml, hB, hown, hlocks, hnm⟩ := id hC
  refine lv_iload_n hx hb dX12_bodyFrom_0 rfl (lv_at hl 1 rfl) ?_
  refine lv_istore (lv' := [(4, .int 3), (0, .ref h0), (1, .int 3), (2, .int 2), (3, .int xx)]) hx hb dX12_bodyFrom_1 hl (by decide) rfl (fun ls hl => ?_)
  refine lv_iload hx hb dX12_bodyFrom_3 (lv_at hl 0 rfl) ?_
  refine lv_iload_n hx hb dX12_bodyFrom_5 rfl (lv_at hl 3 rfl) ?_
  refine pS hC hK hl (m_hasOwn32 l G) si_X12_360 rfl rfl (Nat.le_of_ble_eq_true rfl) ⟨Nat.le_of_ble_eq_true rfl, Nat.le_of_ble_eq_true rfl⟩ ⟨by first | exact Nat.le_of_ble_eq_true rfl | exact Nat.zero_le _, by first | exact Nat.le_of_ble_eq_true rfl | exact Nat.zero_le _⟩ dX12_bodyFrom_6 (fun r5926 hr5926 => ?_)
  obtain rfl := hr5926
  refine lv_if_ne (tgt := 22) hx hb dX12_bodyFrom_9 (by decide) (fun c9 => absurd (by decide) c9) (fun _ => ?_)
  refine lv_iload hx hb dX12_bodyFrom_12 (lv_at hl 0 rfl) ?_
  refine pS hC hK hl (m_above3 l G) si_X12_348 rfl rfl (Nat.le_of_ble_eq_true rfl) ⟨Nat.le_of_ble_eq_true rfl, Nat.le_of_ble_eq_true rfl⟩ ⟨by first | exact Nat.le_of_ble_eq_true rfl | exact Nat.zero_le _, by first | exact Nat.le_of_ble_eq_true rfl | exact Nat.zero_le _⟩ dX12_bodyFrom_14 (fun r5928 hr5928 => ?_)
  obtain rfl := hr5928
  refine lv_istore (lv' := [(4, .int 1), (0, .ref h0), (1, .int 3), (2, .int 2), (3, .int xx)]) hx hb dX12_bodyFrom_17 hl (by decide) rfl (fun ls hl => ?_)
  refine lv_goto (tgt := 3) hx hb dX12_bodyFrom_19 (by decide) ?_
  refine lv_iload hx hb dX12_bodyFrom_3 (lv_at hl 0 rfl) ?_
  refine lv_iload_n hx hb dX12_bodyFrom_5 rfl (lv_at hl 3 rfl) ?_
  refine pS hC hK hl (m_hasOwn12 l G) si_X12_360 rfl rfl (Nat.le_of_ble_eq_true rfl) ⟨Nat.le_of_ble_eq_true rfl, Nat.le_of_ble_eq_true rfl⟩ ⟨by first | exact Nat.le_of_ble_eq_true rfl | exact Nat.zero_le _, by first | exact Nat.le_of_ble_eq_true rfl | exact Nat.zero_le _⟩ dX12_bodyFrom_6 (fun r5930 hr5930 => ?_)
  obtain rfl := hr5930
  refine lv_if_ne (tgt := 22) hx hb dX12_bodyFrom_9 (by decide) (fun c9 => absurd (by decide) c9) (fun _ => ?_)
  refine lv_iload hx hb dX12_bodyFrom_12 (lv_at hl 0 rfl) ?_
  refine pS hC hK hl (m_above1 l G) si_X12_348 rfl rfl (Nat.le_of_ble_eq_true rfl) ⟨Nat.le_of_ble_eq_true rfl, Nat.le_of_ble_eq_true rfl⟩ ⟨by first | exact Nat.le_of_ble_eq_true rfl | exact Nat.zero_le _, by first | exact Nat.le_of_ble_eq_true rfl | exact Nat.zero_le _⟩ dX12_bodyFrom_14 (fun r5932 hr5932 => ?_)
  obtain rfl := hr5932
  refine lv_istore (lv' := [(4, .int 0), (0, .ref h0), (1, .int 3), (2, .int 2), (3, .int xx)]) hx hb dX12_bodyFrom_17 hl (by decide) rfl (fun ls hl => ?_)
  refine lv_goto (tgt := 3) hx hb dX12_bodyFrom_19 (by decide) ?_
  refine lv_iload hx hb dX12_bodyFrom_3 (lv_at hl 0 rfl) ?_
  refine lv_iload_n hx hb dX12_bodyFrom_5 rfl (lv_at hl 3 rfl) ?_
  refine pS hC hK hl (m_hasOwn02 l G) si_X12_360 rfl rfl (Nat.le_of_ble_eq_true rfl) ⟨Nat.le_of_ble_eq_true rfl, Nat.le_of_ble_eq_true rfl⟩ ⟨by first | exact Nat.le_of_ble_eq_true rfl | exact Nat.zero_le _, by first | exact Nat.le_of_ble_eq_true rfl | exact Nat.zero_le _⟩ dX12_bodyFrom_6 (fun r5934 hr5934 => ?_)
  obtain rfl := hr5934
  refine lv_if_ne (tgt := 22) hx hb dX12_bodyFrom_9 (by decide) (fun _ => ?_) (fun c9 => absurd c9 (by decide))
  refine lv_aload_n hx hb dX12_bodyFrom_22 rfl (lv_at hl 1 rfl) ?_
  refine lv_iload hx hb dX12_bodyFrom_23 (lv_at hl 0 rfl) ?_
  refine lv_iload_n hx hb dX12_bodyFrom_25 rfl (lv_at hl 3 rfl) ?_
  refine lv_iload_n hx hb dX12_bodyFrom_26 rfl (lv_at hl 4 rfl) ?_
  refine iV (wr := []) hC hK hl hP hD hS hA (m_body02 l G h0 xx nw nk mhasKept nt mtaped nr mrowMany mroundOf mroundFrom mouts nm mfromHour mtoHour ns mfrom mto msort misFault mdeep mcoded mlines nl nc nF np ntr nb mbestCost nso nsi nit nsh nsf nss nrc jr jd mnumber mwhose msize misParted fnrc (by omega) (by omega)) si_X12_363 [0, 1] [] rfl rfl (by decide) rfl (by decide) (by decide) rfl rfl rfl rfl rfl (Nat.le_of_ble_eq_true rfl) ⟨Nat.le_of_ble_eq_true rfl, Nat.le_of_ble_eq_true rfl⟩ ⟨Nat.le_of_ble_eq_true rfl, Nat.le_of_ble_eq_true rfl⟩ dX12_bodyFrom_27 (fun r5936 u5937 H locs hr5936 hP hD hS => ?_)
  obtain ⟨jr15938, ip15939, gtrc5940⟩ := u5937
  try dsimp only at hr5936
  have hP : va_P G.1 vwCl [(h0, .inr (12, [.ref nw, .ref nk, .int mhasKept, .ref nt, .int mtaped, .ref nr, .int mrowMany, .int mroundOf, .int mroundFrom, .int mouts, .ref nm, .int mfromHour, .int mtoHour, .ref ns, .int mfrom, .int mto, .int msort, .int misFault, .int mdeep, .int mcoded, .int mlines, .ref nl, .ref nc, .ref nF, .ref np, .ref ntr, .ref nb, .int mbestCost, .ref nso, .ref nsi, .ref nit, .ref nsh, .ref nsf, .ref nss, .ref nrc, .int (nI jr15938), .int (nI jd), .int mnumber, .int mwhose, .int msize, .int ip15939])), (nrc, .inl (G.2.1, 30, .inl gtrc5940))] H := hP
  have hD : va_D A [(h0, .inr (12, [.ref nw, .ref nk, .int mhasKept, .ref nt, .int mtaped, .ref nr, .int mrowMany, .int mroundOf, .int mroundFrom, .int mouts, .ref nm, .int mfromHour, .int mtoHour, .ref ns, .int mfrom, .int mto, .int msort, .int misFault, .int mdeep, .int mcoded, .int mlines, .ref nl, .ref nc, .ref nF, .ref np, .ref ntr, .ref nb, .int mbestCost, .ref nso, .ref nsi, .ref nit, .ref nsh, .ref nsf, .ref nss, .ref nrc, .int (nI jr15938), .int (nI jd), .int mnumber, .int mwhose, .int msize, .int ip15939])), (nrc, .inl (G.2.1, 30, .inl gtrc5940))] := hD
  obtain ⟨hr5936, w5941⟩ := hr5936
  exact RI (v := r5936) hC hP hD hS [0, 1] (jr15938, ip15939, gtrc5940) rfl rfl (by decide) (⟨trivial, by omega⟩) rfl dX12_bodyFrom_30
set_option maxHeartbeats 4000000 in
set_option maxRecDepth 100000 in
theorem m_from62 (l : Launch) (G : GG) (h0 : Nat) (xx : Int32) (nw : Nat) (nk : Nat) (mhasKept : Int32) (nt : Nat) (mtaped : Int32) (nr : Nat) (mrowMany : Int32) (mroundOf : Int32) (mroundFrom : Int32) (mouts : Int32) (nm : Nat) (mfromHour : Int32) (mtoHour : Int32) (ns : Nat) (mfrom : Int32) (mto : Int32) (msort : Int32) (misFault : Int32) (mdeep : Int32) (mcoded : Int32) (mlines : Int32) (nl : Nat) (nc : Nat) (nF : Nat) (np : Nat) (ntr : Nat) (nb : Nat) (mbestCost : Int32) (nso : Nat) (nsi : Nat) (nit : Nat) (nsh : Nat) (nsf : Nat) (nss : Nat) (nrc : Nat) (jr : Nat) (jd : Nat) (mnumber : Int32) (mwhose : Int32) (msize : Int32) (misParted : Int32) (fnrc : Nat → Int32) (hjr : jr ≤ 30) (hjd : jd < 7) : MI l G yX12_bodyFrom cX12_bodyFrom 5 (some .int) 36 0 0 [.ref h0, .int 6, .int 2, .int xx] [(h0, .inr (12, [.ref nw, .ref nk, .int mhasKept, .ref nt, .int mtaped, .ref nr, .int mrowMany, .int mroundOf, .int mroundFrom, .int mouts, .ref nm, .int mfromHour, .int mtoHour, .ref ns, .int mfrom, .int mto, .int msort, .int misFault, .int mdeep, .int mcoded, .int mlines, .ref nl, .ref nc, .ref nF, .ref np, .ref ntr, .ref nb, .int mbestCost, .ref nso, .ref nsi, .ref nit, .ref nsh, .ref nsf, .ref nss, .ref nrc, .int (nI jr), .int (nI jd), .int mnumber, .int mwhose, .int msize, .int misParted])), (nrc, .inl (G.2.1, 30, .inl fnrc))] (fun (r : Int32) (u : Nat × Int32 × (Nat → Int32)) => (True) ∧ (u.1 ≤ 30)) (fun u : Nat × Int32 × (Nat → Int32) => [(h0, .inr (12, [.ref nw, .ref nk, .int mhasKept, .ref nt, .int mtaped, .ref nr, .int mrowMany, .int mroundOf, .int mroundFrom, .int mouts, .ref nm, .int mfromHour, .int mtoHour, .ref ns, .int mfrom, .int mto, .int msort, .int misFault, .int mdeep, .int mcoded, .int mlines, .ref nl, .ref nc, .ref nF, .ref np, .ref ntr, .ref nb, .int mbestCost, .ref nso, .ref nsi, .ref nit, .ref nsh, .ref nsf, .ref nss, .ref nrc, .int (nI u.1), .int (nI jd), .int mnumber, .int mwhose, .int msize, .int u.2.1])), (nrc, .inl (G.2.1, 30, .inl u.2.2))]) := by
  refine MI.start (by decide +kernel) (Nat.le_of_ble_eq_true rfl) ?_
  intro p e s m below meth c A ls hC hK hP hD hS hA hl
  have hl : lv_has ls 5 [(0, .ref h0), (1, .int 6), (2, .int 2), (3, .int xx)] := hl
  obtain ⟨hx, hb, hr, hml, hB, hown, hlocks, hnm⟩ := id hC
  refine lv_iload_n hx hb dX12_bodyFrom_0 rfl (lv_at hl 1 rfl) ?_
  refine lv_istore (lv' := [(4, .int 6), (0, .ref h0), (1, .int 6), (2, .int 2), (3, .int xx)]) hx hb dX12_bodyFrom_1 hl (by decide) rfl (fun ls hl => ?_)
  refine lv_iload hx hb dX12_bodyFrom_3 (lv_at hl 0 rfl) ?_
  refine lv_iload_n hx hb dX12_bodyFrom_5 rfl (lv_at hl 3 rfl) ?_
  refine pS hC hK hl (m_hasOwn62 l G) si_X12_360 rfl rfl (Nat.le_of_ble_eq_true rfl) ⟨Nat.le_of_ble_eq_true rfl, Nat.le_of_ble_eq_true rfl⟩ ⟨by first | exact Nat.le_of_ble_eq_true rfl | exact Nat.zero_le _, by first | exact Nat.le_of_ble_eq_true rfl | exact Nat.zero_le _⟩ dX12_bodyFrom_6 (fun r5942 hr5942 => ?_)
  obtain rfl := hr5942
  refine lv_if_ne (tgt := 22) hx hb dX12_bodyFrom_9 (by decide) (fun c9 => absurd (by decide) c9) (fun _ => ?_)
  refine lv_iload hx hb dX12_bodyFrom_12 (lv_at hl 0 rfl) ?_
  refine pS hC hK hl (m_above6 l G) si_X12_348 rfl rfl (Nat.le_of_ble_eq_true rfl) ⟨Nat.le_of_ble_eq_true rfl, Nat.le_of_ble_eq_true rfl⟩ ⟨by first | exact Nat.le_of_ble_eq_true rfl | exact Nat.zero_le _, by first | exact Nat.le_of_ble_eq_true rfl | exact Nat.zero_le _⟩ dX12_bodyFrom_14 (fun r5944 hr5944 => ?_)
  obtain rfl := hr5944
  refine lv_istore (lv' := [(4, .int 0), (0, .ref h0), (1, .int 6), (2, .int 2), (3, .int xx)]) hx hb dX12_bodyFrom_17 hl (by decide) rfl (fun ls hl => ?_)
  refine lv_goto (tgt := 3) hx hb dX12_bodyFrom_19 (by decide) ?_
  refine lv_iload hx hb dX12_bodyFrom_3 (lv_at hl 0 rfl) ?_
  refine lv_iload_n hx hb dX12_bodyFrom_5 rfl (lv_at hl 3 rfl) ?_
  refine pS hC hK hl (m_hasOwn02 l G) si_X12_360 rfl rfl (Nat.le_of_ble_eq_true rfl) ⟨Nat.le_of_ble_eq_true rfl, Nat.le_of_ble_eq_true rfl⟩ ⟨by first | exact Nat.le_of_ble_eq_true rfl | exact Nat.zero_le _, by first | exact Nat.le_of_ble_eq_true rfl | exact Nat.zero_le _⟩ dX12_bodyFrom_6 (fun r5946 hr5946 => ?_)
  obtain rfl := hr5946
  refine lv_if_ne (tgt := 22) hx hb dX12_bodyFrom_9 (by decide) (fun _ => ?_) (fun c9 => absurd c9 (by decide))
  refine lv_aload_n hx hb dX12_bodyFrom_22 rfl (lv_at hl 1 rfl) ?_
  refine lv_iload hx hb dX12_bodyFrom_23 (lv_at hl 0 rfl) ?_
  refine lv_iload_n hx hb dX12_bodyFrom_25 rfl (lv_at hl 3 rfl) ?_
  refine lv_iload_n hx hb dX12_bodyFrom_26 rfl (lv_at hl 4 rfl) ?_
  refine iV (wr := []) hC hK hl hP hD hS hA (m_body02 l G h0 xx nw nk mhasKept nt mtaped nr mrowMany mroundOf mroundFrom mouts nm mfromHour mtoHour ns mfrom mto msort misFault mdeep mcoded mlines nl nc nF np ntr nb mbestCost nso nsi nit nsh nsf nss nrc jr jd mnumber mwhose msize misParted fnrc (by omega) (by omega)) si_X12_363 [0, 1] [] rfl rfl (by decide) rfl (by decide) (by decide) rfl rfl rfl rfl rfl (Nat.le_of_ble_eq_true rfl) ⟨Nat.le_of_ble_eq_true rfl, Nat.le_of_ble_eq_true rfl⟩ ⟨Nat.le_of_ble_eq_true rfl, Nat.le_of_ble_eq_true rfl⟩ dX12_bodyFrom_27 (fun r5948 u5949 H locs hr5948 hP hD hS => ?_)
  obtain ⟨jr15950, ip15951, gtrc5952⟩ := u5949
  try dsimp only at hr5948
  have hP : va_P G.1 vwCl [(h0, .inr (12, [.ref nw, .ref nk, .int mhasKept, .ref nt, .int mtaped, .ref nr, .int mrowMany, .int mroundOf, .int mroundFrom, .int mouts, .ref nm, .int mfromHour, .int mtoHour, .ref ns, .int mfrom, .int mto, .int msort, .int misFault, .int mdeep, .int mcoded, .int mlines, .ref nl, .ref nc, .ref nF, .ref np, .ref ntr, .ref nb, .int mbestCost, .ref nso, .ref nsi, .ref nit, .ref nsh, .ref nsf, .ref nss, .ref nrc, .int (nI jr15950), .int (nI jd), .int mnumber, .int mwhose, .int msize, .int ip15951])), (nrc, .inl (G.2.1, 30, .inl gtrc5952))] H := hP
  have hD : va_D A [(h0, .inr (12, [.ref nw, .ref nk, .int mhasKept, .ref nt, .int mtaped, .ref nr, .int mrowMany, .int mroundOf, .int mroundFrom, .int mouts, .ref nm, .int mfromHour, .int mtoHour, .ref ns, .int mfrom, .int mto, .int msort, .int misFault, .int mdeep, .int mcoded, .int mlines, .ref nl, .ref nc, .ref nF, .ref np, .ref ntr, .ref nb, .int mbestCost, .ref nso, .ref nsi, .ref nit, .ref nsh, .ref nsf, .ref nss, .ref nrc, .int (nI jr15950), .int (nI jd), .int mnumber, .int mwhose, .int msize, .int ip15951])), (nrc, .inl (G.2.1, 30, .inl gtrc5952))] := hD
  obtain ⟨hr5948, w5953⟩ := hr5948
  exact RI (v := r5948) hC hP hD hS [0, 1] (jr15950, ip15951, gtrc5952) rfl rfl (by decide) (⟨trivial, by omega⟩) rfl dX12_bodyFrom_30
set_option maxHeartbeats 4000000 in
set_option maxRecDepth 100000 in
theorem m_dealt2 (l : Launch) (G : GG) (h0 : Nat) (xx : Int32) (nw : Nat) (nk : Nat) (mhasKept : Int32) (nt : Nat) (mtaped : Int32) (nr : Nat) (mrowMany : Int32) (mroundOf : Int32) (mroundFrom : Int32) (mouts : Int32) (nm : Nat) (mfromHour : Int32) (mtoHour : Int32) (ns : Nat) (mfrom : Int32) (mto : Int32) (msort : Int32) (misFault : Int32) (mdeep : Int32) (mcoded : Int32) (mlines : Int32) (nl : Nat) (nc : Nat) (nF : Nat) (np : Nat) (ntr : Nat) (nb : Nat) (mbestCost : Int32) (nso : Nat) (nsi : Nat) (nit : Nat) (nsh : Nat) (nsf : Nat) (nss : Nat) (nrc : Nat) (jr : Nat) (jd : Nat) (mnumber : Int32) (mwhose : Int32) (msize : Int32) (misParted : Int32) (fnrc : Nat → Int32) (hjr : jr ≤ 30) (hjd : jd < 7) : MI l G yX12_dealt cX12_dealt 3 (some .int) 38 0 0 [.ref h0, .int 2, .int xx] [(h0, .inr (12, [.ref nw, .ref nk, .int mhasKept, .ref nt, .int mtaped, .ref nr, .int mrowMany, .int mroundOf, .int mroundFrom, .int mouts, .ref nm, .int mfromHour, .int mtoHour, .ref ns, .int mfrom, .int mto, .int msort, .int misFault, .int mdeep, .int mcoded, .int mlines, .ref nl, .ref nc, .ref nF, .ref np, .ref ntr, .ref nb, .int mbestCost, .ref nso, .ref nsi, .ref nit, .ref nsh, .ref nsf, .ref nss, .ref nrc, .int (nI jr), .int (nI jd), .int mnumber, .int mwhose, .int msize, .int misParted])), (nrc, .inl (G.2.1, 30, .inl fnrc))] (fun (r : Int32) (u : Nat × Int32 × (Nat → Int32)) => (True) ∧ (u.1 ≤ 30)) (fun u : Nat × Int32 × (Nat → Int32) => [(h0, .inr (12, [.ref nw, .ref nk, .int mhasKept, .ref nt, .int mtaped, .ref nr, .int mrowMany, .int mroundOf, .int mroundFrom, .int mouts, .ref nm, .int mfromHour, .int mtoHour, .ref ns, .int mfrom, .int mto, .int msort, .int misFault, .int mdeep, .int mcoded, .int mlines, .ref nl, .ref nc, .ref nF, .ref np, .ref ntr, .ref nb, .int mbestCost, .ref nso, .ref nsi, .ref nit, .ref nsh, .ref nsf, .ref nss, .ref nrc, .int (nI u.1), .int (nI jd), .int mnumber, .int mwhose, .int msize, .int u.2.1])), (nrc, .inl (G.2.1, 30, .inl u.2.2))]) := by
  refine MI.start (by decide +kernel) (Nat.le_of_ble_eq_true rfl) ?_
  intro p e s m below meth c A ls hC hK hP hD hS hA hl
  have hl : lv_has ls 3 [(0, .ref h0), (1, .int 2), (2, .int xx)] := hl
  obtain ⟨hx, hb, hr, hml, hB, hown, hlocks, hnm⟩ := id hC
  refine lv_aload_n hx hb dX12_dealt_0 rfl (lv_at hl 0 rfl) ?_
  refine lv_aload_n hx hb dX12_dealt_1 rfl (lv_at hl 0 rfl) ?_
  refine gf_X12_354 hC rfl hK hP 0 rfl rfl dX12_dealt_2 ?_
  refine lv_iload_n hx hb dX12_dealt_5 rfl (lv_at hl 1 rfl) ?_
  refine lv_iload_n hx hb dX12_dealt_6 rfl (lv_at hl 2 rfl) ?_
  rcases (show jd = 0 ∨ jd = 1 ∨ jd = 2 ∨ jd = 3 ∨ jd = 4 ∨ jd = 5 ∨ jd = 6 by omega) with rfl | rfl | rfl | rfl | rfl | rfl | rfl
  · refine iV (wr := []) hC hK hl hP hD hS hA (m_from02 l G h0 xx nw nk mhasKept nt mtaped nr mrowMany mroundOf mroundFrom mouts nm mfromHour mtoHour ns mfrom mto msort misFault mdeep mcoded mlines nl nc nF np ntr nb mbestCost nso nsi nit nsh nsf nss nrc jr 0 mnumber mwhose msize misParted fnrc (by omega) (by omega)) si_X12_357 [0, 1] [] rfl rfl (by decide) rfl (by decide) (by decide) rfl rfl rfl rfl rfl (Nat.le_of_ble_eq_true rfl) ⟨Nat.le_of_ble_eq_true rfl, Nat.le_of_ble_eq_true rfl⟩ ⟨Nat.le_of_ble_eq_true rfl, Nat.le_of_ble_eq_true rfl⟩ dX12_dealt_7 (fun r5954 u5955 H locs hr5954 hP hD hS => ?_)
    obtain ⟨jr15956, ip15957, gtrc5958⟩ := u5955
    try dsimp only at hr5954
    have hP : va_P G.1 vwCl [(h0, .inr (12, [.ref nw, .ref nk, .int mhasKept, .ref nt, .int mtaped, .ref nr, .int mrowMany, .int mroundOf, .int mroundFrom, .int mouts, .ref nm, .int mfromHour, .int mtoHour, .ref ns, .int mfrom, .int mto, .int msort, .int misFault, .int mdeep, .int mcoded, .int mlines, .ref nl, .ref nc, .ref nF, .ref np, .ref ntr, .ref nb, .int mbestCost, .ref nso, .ref nsi, .ref nit, .ref nsh, .ref nsf, .ref nss, .ref nrc, .int (nI jr15956), .int 0, .int mnumber, .int mwhose, .int msize, .int ip15957])), (nrc, .inl (G.2.1, 30, .inl gtrc5958))] H := hP
    have hD : va_D A [(h0, .inr (12, [.ref nw, .ref nk, .int mhasKept, .ref nt, .int mtaped, .ref nr, .int mrowMany, .int mroundOf, .int mroundFrom, .int mouts, .ref nm, .int mfromHour, .int mtoHour, .ref ns, .int mfrom, .int mto, .int msort, .int misFault, .int mdeep, .int mcoded, .int mlines, .ref nl, .ref nc, .ref nF, .ref np, .ref ntr, .ref nb, .int mbestCost, .ref nso, .ref nsi, .ref nit, .ref nsh, .ref nsf, .ref nss, .ref nrc, .int (nI jr15956), .int 0, .int mnumber, .int mwhose, .int msize, .int ip15957])), (nrc, .inl (G.2.1, 30, .inl gtrc5958))] := hD
    obtain ⟨hr5954, w5959⟩ := hr5954
    exact RI (v := r5954) hC hP hD hS [0, 1] (jr15956, ip15957, gtrc5958) rfl rfl (by decide) (⟨trivial, by omega⟩) rfl dX12_dealt_10
  · refine iV (wr := []) hC hK hl hP hD hS hA (m_from12 l G h0 xx nw nk mhasKept nt mtaped nr mrowMany mroundOf mroundFrom mouts nm mfromHour mtoHour ns mfrom mto msort misFault mdeep mcoded mlines nl nc nF np ntr nb mbestCost nso nsi nit nsh nsf nss nrc jr 1 mnumber mwhose msize misParted fnrc (by omega) (by omega)) si_X12_357 [0, 1] [] rfl rfl (by decide) rfl (by decide) (by decide) rfl rfl rfl rfl rfl (Nat.le_of_ble_eq_true rfl) ⟨Nat.le_of_ble_eq_true rfl, Nat.le_of_ble_eq_true rfl⟩ ⟨Nat.le_of_ble_eq_true rfl, Nat.le_of_ble_eq_true rfl⟩ dX12_dealt_7 (fun r5960 u5961 H locs hr5960 hP hD hS => ?_)
    obtain ⟨jr15962, ip15963, gtrc5964⟩ := u5961
    try dsimp only at hr5960
    have hP : va_P G.1 vwCl [(h0, .inr (12, [.ref nw, .ref nk, .int mhasKept, .ref nt, .int mtaped, .ref nr, .int mrowMany, .int mroundOf, .int mroundFrom, .int mouts, .ref nm, .int mfromHour, .int mtoHour, .ref ns, .int mfrom, .int mto, .int msort, .int misFault, .int mdeep, .int mcoded, .int mlines, .ref nl, .ref nc, .ref nF, .ref np, .ref ntr, .ref nb, .int mbestCost, .ref nso, .ref nsi, .ref nit, .ref nsh, .ref nsf, .ref nss, .ref nrc, .int (nI jr15962), .int 1, .int mnumber, .int mwhose, .int msize, .int ip15963])), (nrc, .inl (G.2.1, 30, .inl gtrc5964))] H := hP
    have hD : va_D A [(h0, .inr (12, [.ref nw, .ref nk, .int mhasKept, .ref nt, .int mtaped, .ref nr, .int mrowMany, .int mroundOf, .int mroundFrom, .int mouts, .ref nm, .int mfromHour, .int mtoHour, .ref ns, .int mfrom, .int mto, .int msort, .int misFault, .int mdeep, .int mcoded, .int mlines, .ref nl, .ref nc, .ref nF, .ref np, .ref ntr, .ref nb, .int mbestCost, .ref nso, .ref nsi, .ref nit, .ref nsh, .ref nsf, .ref nss, .ref nrc, .int (nI jr15962), .int 1, .int mnumber, .int mwhose, .int msize, .int ip15963])), (nrc, .inl (G.2.1, 30, .inl gtrc5964))] := hD
    obtain ⟨hr5960, w5965⟩ := hr5960
    exact RI (v := r5960) hC hP hD hS [0, 1] (jr15962, ip15963, gtrc5964) rfl rfl (by decide) (⟨trivial, by omega⟩) rfl dX12_dealt_10
  · refine iV (wr := []) hC hK hl hP hD hS hA (m_from22 l G h0 xx nw nk mhasKept nt mtaped nr mrowMany mroundOf mroundFrom mouts nm mfromHour mtoHour ns mfrom mto msort misFault mdeep mcoded mlines nl nc nF np ntr nb mbestCost nso nsi nit nsh nsf nss nrc jr 2 mnumber mwhose msize misParted fnrc (by omega) (by omega)) si_X12_357 [0, 1] [] rfl rfl (by decide) rfl (by decide) (by decide) rfl rfl rfl rfl rfl (Nat.le_of_ble_eq_true rfl) ⟨Nat.le_of_ble_eq_true rfl, Nat.le_of_ble_eq_true rfl⟩ ⟨Nat.le_of_ble_eq_true rfl, Nat.le_of_ble_eq_true rfl⟩ dX12_dealt_7 (fun r5966 u5967 H locs hr5966 hP hD hS => ?_)
    obtain ⟨jr15968, ip15969, gtrc5970⟩ := u5967
    try dsimp only at hr5966
    have hP : va_P G.1 vwCl [(h0, .inr (12, [.ref nw, .ref nk, .int mhasKept, .ref nt, .int mtaped, .ref nr, .int mrowMany, .int mroundOf, .int mroundFrom, .int mouts, .ref nm, .int mfromHour, .int mtoHour, .ref ns, .int mfrom, .int mto, .int msort, .int misFault, .int mdeep, .int mcoded, .int mlines, .ref nl, .ref nc, .ref nF, .ref np, .ref ntr, .ref nb, .int mbestCost, .ref nso, .ref nsi, .ref nit, .ref nsh, .ref nsf, .ref nss, .ref nrc, .int (nI jr15968), .int 2, .int mnumber, .int mwhose, .int msize, .int ip15969])), (nrc, .inl (G.2.1, 30, .inl gtrc5970))] H := hP
    have hD : va_D A [(h0, .inr (12, [.ref nw, .ref nk, .int mhasKept, .ref nt, .int mtaped, .ref nr, .int mrowMany, .int mroundOf, .int mroundFrom, .int mouts, .ref nm, .int mfromHour, .int mtoHour, .ref ns, .int mfrom, .int mto, .int msort, .int misFault, .int mdeep, .int mcoded, .int mlines, .ref nl, .ref nc, .ref nF, .ref np, .ref ntr, .ref nb, .int mbestCost, .ref nso, .ref nsi, .ref nit, .ref nsh, .ref nsf, .ref nss, .ref nrc, .int (nI jr15968), .int 2, .int mnumber, .int mwhose, .int msize, .int ip15969])), (nrc, .inl (G.2.1, 30, .inl gtrc5970))] := hD
    obtain ⟨hr5966, w5971⟩ := hr5966
    exact RI (v := r5966) hC hP hD hS [0, 1] (jr15968, ip15969, gtrc5970) rfl rfl (by decide) (⟨trivial, by omega⟩) rfl dX12_dealt_10
  · refine iV (wr := []) hC hK hl hP hD hS hA (m_from32 l G h0 xx nw nk mhasKept nt mtaped nr mrowMany mroundOf mroundFrom mouts nm mfromHour mtoHour ns mfrom mto msort misFault mdeep mcoded mlines nl nc nF np ntr nb mbestCost nso nsi nit nsh nsf nss nrc jr 3 mnumber mwhose msize misParted fnrc (by omega) (by omega)) si_X12_357 [0, 1] [] rfl rfl (by decide) rfl (by decide) (by decide) rfl rfl rfl rfl rfl (Nat.le_of_ble_eq_true rfl) ⟨Nat.le_of_ble_eq_true rfl, Nat.le_of_ble_eq_true rfl⟩ ⟨Nat.le_of_ble_eq_true rfl, Nat.le_of_ble_eq_true rfl⟩ dX12_dealt_7 (fun r5972 u5973 H locs hr5972 hP hD hS => ?_)
    obtain ⟨jr15974, ip15975, gtrc5976⟩ := u5973
    try dsimp only at hr5972
    have hP : va_P G.1 vwCl [(h0, .inr (12, [.ref nw, .ref nk, .int mhasKept, .ref nt, .int mtaped, .ref nr, .int mrowMany, .int mroundOf, .int mroundFrom, .int mouts, .ref nm, .int mfromHour, .int mtoHour, .ref ns, .int mfrom, .int mto, .int msort, .int misFault, .int mdeep, .int mcoded, .int mlines, .ref nl, .ref nc, .ref nF, .ref np, .ref ntr, .ref nb, .int mbestCost, .ref nso, .ref nsi, .ref nit, .ref nsh, .ref nsf, .ref nss, .ref nrc, .int (nI jr15974), .int 3, .int mnumber, .int mwhose, .int msize, .int ip15975])), (nrc, .inl (G.2.1, 30, .inl gtrc5976))] H := hP
    have hD : va_D A [(h0, .inr (12, [.ref nw, .ref nk, .int mhasKept, .ref nt, .int mtaped, .ref nr, .int mrowMany, .int mroundOf, .int mroundFrom, .int mouts, .ref nm, .int mfromHour, .int mtoHour, .ref ns, .int mfrom, .int mto, .int msort, .int misFault, .int mdeep, .int mcoded, .int mlines, .ref nl, .ref nc, .ref nF, .ref np, .ref ntr, .ref nb, .int mbestCost, .ref nso, .ref nsi, .ref nit, .ref nsh, .ref nsf, .ref nss, .ref nrc, .int (nI jr15974), .int 3, .int mnumber, .int mwhose, .int msize, .int ip15975])), (nrc, .inl (G.2.1, 30, .inl gtrc5976))] := hD
    obtain ⟨hr5972, w5977⟩ := hr5972
    exact RI (v := r5972) hC hP hD hS [0, 1] (jr15974, ip15975, gtrc5976) rfl rfl (by decide) (⟨trivial, by omega⟩) rfl dX12_dealt_10
  · refine iV (wr := []) hC hK hl hP hD hS hA (m_from42 l G h0 xx nw nk mhasKept nt mtaped nr mrowMany mroundOf mroundFrom mouts nm mfromHour mtoHour ns mfrom mto msort misFault mdeep mcoded mlines nl nc nF np ntr nb mbestCost nso nsi nit nsh nsf nss nrc jr 4 mnumber mwhose msize misParted fnrc (by omega) (by omega)) si_X12_357 [0, 1] [] rfl rfl (by decide) rfl (by decide) (by decide) rfl rfl rfl rfl rfl (Nat.le_of_ble_eq_true rfl) ⟨Nat.le_of_ble_eq_true rfl, Nat.le_of_ble_eq_true rfl⟩ ⟨Nat.le_of_ble_eq_true rfl, Nat.le_of_ble_eq_true rfl⟩ dX12_dealt_7 (fun r5978 u5979 H locs hr5978 hP hD hS => ?_)
    obtain ⟨jr15980, ip15981, gtrc5982⟩ := u5979
    try dsimp only at hr5978
    have hP : va_P G.1 vwCl [(h0, .inr (12, [.ref nw, .ref nk, .int mhasKept, .ref nt, .int mtaped, .ref nr, .int mrowMany, .int mroundOf, .int mroundFrom, .int mouts, .ref nm, .int mfromHour, .int mtoHour, .ref ns, .int mfrom, .int mto, .int msort, .int misFault, .int mdeep, .int mcoded, .int mlines, .ref nl, .ref nc, .ref nF, .ref np, .ref ntr, .ref nb, .int mbestCost, .ref nso, .ref nsi, .ref nit, .ref nsh, .ref nsf, .ref nss, .ref nrc, .int (nI jr15980), .int 4, .int mnumber, .int mwhose, .int msize, .int ip15981])), (nrc, .inl (G.2.1, 30, .inl gtrc5982))] H := hP
    have hD : va_D A [(h0, .inr (12, [.ref nw, .ref nk, .int mhasKept, .ref nt, .int mtaped, .ref nr, .int mrowMany, .int mroundOf, .int mroundFrom, .int mouts, .ref nm, .int mfromHour, .int mtoHour, .ref ns, .int mfrom, .int mto, .int msort, .int misFault, .int mdeep, .int mcoded, .int mlines, .ref nl, .ref nc, .ref nF, .ref np, .ref ntr, .ref nb, .int mbestCost, .ref nso, .ref nsi, .ref nit, .ref nsh, .ref nsf, .ref nss, .ref nrc, .int (nI jr15980), .int 4, .int mnumber, .int mwhose, .int msize, .int ip15981])), (nrc, .inl (G.2.1, 30, .inl gtrc5982))] := hD
    obtain ⟨hr5978, w5983⟩ := hr5978
    exact RI (v := r5978) hC hP hD hS [0, 1] (jr15980, ip15981, gtrc5982) rfl rfl (by decide) (⟨trivial, by omega⟩) rfl dX12_dealt_10
  · refine iV (wr := []) hC hK hl hP hD hS hA (m_from52 l G h0 xx nw nk mhasKept nt mtaped nr mrowMany mroundOf mroundFrom mouts nm mfromHour mtoHour ns mfrom mto msort misFault mdeep mcoded mlines nl nc nF np ntr nb mbestCost nso nsi nit nsh nsf nss nrc jr 5 mnumber mwhose msize misParted fnrc (by omega) (by omega)) si_X12_357 [0, 1] [] rfl rfl (by decide) rfl (by decide) (by decide) rfl rfl rfl rfl rfl (Nat.le_of_ble_eq_true rfl) ⟨Nat.le_of_ble_eq_true rfl, Nat.le_of_ble_eq_true rfl⟩ ⟨Nat.le_of_ble_eq_true rfl, Nat.le_of_ble_eq_true rfl⟩ dX12_dealt_7 (fun r5984 u5985 H locs hr5984 hP hD hS => ?_)
    obtain ⟨jr15986, ip15987, gtrc5988⟩ := u5985
    try dsimp only at hr5984
    have hP : va_P G.1 vwCl [(h0, .inr (12, [.ref nw, .ref nk, .int mhasKept, .ref nt, .int mtaped, .ref nr, .int mrowMany, .int mroundOf, .int mroundFrom, .int mouts, .ref nm, .int mfromHour, .int mtoHour, .ref ns, .int mfrom, .int mto, .int msort, .int misFault, .int mdeep, .int mcoded, .int mlines, .ref nl, .ref nc, .ref nF, .ref np, .ref ntr, .ref nb, .int mbestCost, .ref nso, .ref nsi, .ref nit, .ref nsh, .ref nsf, .ref nss, .ref nrc, .int (nI jr15986), .int 5, .int mnumber, .int mwhose, .int msize, .int ip15987])), (nrc, .inl (G.2.1, 30, .inl gtrc5988))] H := hP
    have hD : va_D A [(h0, .inr (12, [.ref nw, .ref nk, .int mhasKept, .ref nt, .int mtaped, .ref nr, .int mrowMany, .int mroundOf, .int mroundFrom, .int mouts, .ref nm, .int mfromHour, .int mtoHour, .ref ns, .int mfrom, .int mto, .int msort, .int misFault, .int mdeep, .int mcoded, .int mlines, .ref nl, .ref nc, .ref nF, .ref np, .ref ntr, .ref nb, .int mbestCost, .ref nso, .ref nsi, .ref nit, .ref nsh, .ref nsf, .ref nss, .ref nrc, .int (nI jr15986), .int 5, .int mnumber, .int mwhose, .int msize, .int ip15987])), (nrc, .inl (G.2.1, 30, .inl gtrc5988))] := hD
    obtain ⟨hr5984, w5989⟩ := hr5984
    exact RI (v := r5984) hC hP hD hS [0, 1] (jr15986, ip15987, gtrc5988) rfl rfl (by decide) (⟨trivial, by omega⟩) rfl dX12_dealt_10
  · refine iV (wr := []) hC hK hl hP hD hS hA (m_from62 l G h0 xx nw nk mhasKept nt mtaped nr mrowMany mroundOf mroundFrom mouts nm mfromHour mtoHour ns mfrom mto msort misFault mdeep mcoded mlines nl nc nF np ntr nb mbestCost nso nsi nit nsh nsf nss nrc jr 6 mnumber mwhose msize misParted fnrc (by omega) (by omega)) si_X12_357 [0, 1] [] rfl rfl (by decide) rfl (by decide) (by decide) rfl rfl rfl rfl rfl (Nat.le_of_ble_eq_true rfl) ⟨Nat.le_of_ble_eq_true rfl, Nat.le_of_ble_eq_true rfl⟩ ⟨Nat.le_of_ble_eq_true rfl, Nat.le_of_ble_eq_true rfl⟩ dX12_dealt_7 (fun r5990 u5991 H locs hr5990 hP hD hS => ?_)
    obtain ⟨jr15992, ip15993, gtrc5994⟩ := u5991
    try dsimp only at hr5990
    have hP : va_P G.1 vwCl [(h0, .inr (12, [.ref nw, .ref nk, .int mhasKept, .ref nt, .int mtaped, .ref nr, .int mrowMany, .int mroundOf, .int mroundFrom, .int mouts, .ref nm, .int mfromHour, .int mtoHour, .ref ns, .int mfrom, .int mto, .int msort, .int misFault, .int mdeep, .int mcoded, .int mlines, .ref nl, .ref nc, .ref nF, .ref np, .ref ntr, .ref nb, .int mbestCost, .ref nso, .ref nsi, .ref nit, .ref nsh, .ref nsf, .ref nss, .ref nrc, .int (nI jr15992), .int 6, .int mnumber, .int mwhose, .int msize, .int ip15993])), (nrc, .inl (G.2.1, 30, .inl gtrc5994))] H := hP
    have hD : va_D A [(h0, .inr (12, [.ref nw, .ref nk, .int mhasKept, .ref nt, .int mtaped, .ref nr, .int mrowMany, .int mroundOf, .int mroundFrom, .int mouts, .ref nm, .int mfromHour, .int mtoHour, .ref ns, .int mfrom, .int mto, .int msort, .int misFault, .int mdeep, .int mcoded, .int mlines, .ref nl, .ref nc, .ref nF, .ref np, .ref ntr, .ref nb, .int mbestCost, .ref nso, .ref nsi, .ref nit, .ref nsh, .ref nsf, .ref nss, .ref nrc, .int (nI jr15992), .int 6, .int mnumber, .int mwhose, .int msize, .int ip15993])), (nrc, .inl (G.2.1, 30, .inl gtrc5994))] := hD
    obtain ⟨hr5990, w5995⟩ := hr5990
    exact RI (v := r5990) hC hP hD hS [0, 1] (jr15992, ip15993, gtrc5994) rfl rfl (by decide) (⟨trivial, by omega⟩) rfl dX12_dealt_10
set_option maxHeartbeats 4000000 in
set_option maxRecDepth 100000 in
theorem m_body03 (l : Launch) (G : GG) (h0 : Nat) (xx : Int32) (nw : Nat) (nk : Nat) (mhasKept : Int32) (nt : Nat) (mtaped : Int32) (nr : Nat) (mrowMany : Int32) (mroundOf : Int32) (mroundFrom : Int32) (mouts : Int32) (nm : Nat) (mfromHour : Int32) (mtoHour : Int32) (ns : Nat) (mfrom : Int32) (mto : Int32) (msort : Int32) (misFault : Int32) (mdeep : Int32) (mcoded : Int32) (mlines : Int32) (nl : Nat) (nc : Nat) (nF : Nat) (np : Nat) (ntr : Nat) (nb : Nat) (mbestCost : Int32) (nso : Nat) (nsi : Nat) (nit : Nat) (nsh : Nat) (nsf : Nat) (nss : Nat) (nrc : Nat) (jr : Nat) (jd : Nat) (mnumber : Int32) (mwhose : Int32) (msize : Int32) (misParted : Int32) (fnrc : Nat → Int32) (hjr : jr ≤ 30) (hjd : jd < 7) : MI l G yX12_body cX12_body 6 (some .int) 39 0 0 [.ref h0, .int 0, .int 3, .int xx] [(h0, .inr (12, [.ref nw, .ref nk, .int mhasKept, .ref nt, .int mtaped, .ref nr, .int mrowMany, .int mroundOf, .int mroundFrom, .int mouts, .ref nm, .int mfromHour, .int mtoHour, .ref ns, .int mfrom, .int mto, .int msort, .int misFault, .int mdeep, .int mcoded, .int mlines, .ref nl, .ref nc, .ref nF, .ref np, .ref ntr, .ref nb, .int mbestCost, .ref nso, .ref nsi, .ref nit, .ref nsh, .ref nsf, .ref nss, .ref nrc, .int (nI jr), .int (nI jd), .int mnumber, .int mwhose, .int msize, .int misParted])), (nrc, .inl (G.2.1, 30, .inl fnrc))] (fun (r : Int32) (u : Nat × Int32 × (Nat → Int32)) => (True) ∧ (u.1 ≤ 30)) (fun u : Nat × Int32 × (Nat → Int32) => [(h0, .inr (12, [.ref nw, .ref nk, .int mhasKept, .ref nt, .int mtaped, .ref nr, .int mrowMany, .int mroundOf, .int mroundFrom, .int mouts, .ref nm, .int mfromHour, .int mtoHour, .ref ns, .int mfrom, .int mto, .int msort, .int misFault, .int mdeep, .int mcoded, .int mlines, .ref nl, .ref nc, .ref nF, .ref np, .ref ntr, .ref nb, .int mbestCost, .ref nso, .ref nsi, .ref nit, .ref nsh, .ref nsf, .ref nss, .ref nrc, .int (nI u.1), .int (nI jd), .int mnumber, .int mwhose, .int msize, .int u.2.1])), (nrc, .inl (G.2.1, 30, .inl u.2.2))]) := by
  refine MI.start (by decide +kernel) (Nat.le_of_ble_eq_true rfl) ?_
  intro p e s m below meth c A ls hC hK hP hD hS hA hl
  have hl : lv_has ls 6 [(0, .ref h0), (1, .int 0), (2, .int 3), (3, .int xx)] := hl
  obtain ⟨hx, hb, hr, hml, hB, hown, hlocks, hnm⟩ := id hC
  refine lv_iconst (v := 4) hx hb dX12_body_0 (by decide) ?_
  refine lv_iload_n hx hb dX12_body_1 rfl (lv_at hl 1 rfl) ?_
  refine lv_imul hx hb dX12_body_2 ?_
  refine eqi (x1 := 0) (by decide) ?_
  refine lv_iload_n hx hb dX12_body_3 rfl (lv_at hl 2 rfl) ?_
  refine lv_iadd hx hb dX12_body_4 ?_
  refine eqi (x1 := 3) (by decide) ?_
  refine lv_tableIn (tgt := 158) hx hb dX12_body_5 (by decide) (by decide) rfl (by decide) ?_
  refine lv_aload_n hx hb dX12_body_158 rfl (lv_at hl 0 rfl) ?_
  refine lv_bipush (v := 13) hx hb dX12_body_159 (by decide) ?_
  refine vV (wr := []) hC hK hl hP hD hS hA (m_began l G h0 13 nw nk mhasKept nt mtaped nr mrowMany mroundOf mroundFrom mouts nm mfromHour mtoHour ns mfrom mto msort misFault mdeep mcoded mlines nl nc nF np ntr nb mbestCost nso nsi nit nsh nsf nss nrc jr (nI jd) mnumber mwhose msize misParted fnrc (by omega)) si_X12_366 [0, 1] [] rfl rfl (by decide) rfl (by decide) (by decide) rfl rfl rfl rfl rfl (Nat.le_of_ble_eq_true rfl) ⟨Nat.le_of_ble_eq_true rfl, Nat.le_of_ble_eq_true rfl⟩ ⟨Nat.le_of_ble_eq_true rfl, Nat.le_of_ble_eq_true rfl⟩ dX12_body_161 (fun u5997 H locs hr5996 hP hD hS => ?_)
  obtain ⟨jr15998, gtrc5999⟩ := u5997
  try dsimp only at hr5996
  have hP : va_P G.1 vwCl [(h0, .inr (12, [.ref nw, .ref nk, .int mhasKept, .ref nt, .int mtaped, .ref nr, .int mrowMany, .int mroundOf, .int mroundFrom, .int mouts, .ref nm, .int mfromHour, .int mtoHour, .ref ns, .int mfrom, .int mto, .int msort, .int misFault, .int mdeep, .int mcoded, .int mlines, .ref nl, .ref nc, .ref nF, .ref np, .ref ntr, .ref nb, .int mbestCost, .ref nso, .ref nsi, .ref nit, .ref nsh, .ref nsf, .ref nss, .ref nrc, .int (nI jr15998), .int (nI jd), .int mnumber, .int mwhose, .int msize, .int misParted])), (nrc, .inl (G.2.1, 30, .inl gtrc5999))] H := hP
  have hD : va_D A [(h0, .inr (12, [.ref nw, .ref nk, .int mhasKept, .ref nt, .int mtaped, .ref nr, .int mrowMany, .int mroundOf, .int mroundFrom, .int mouts, .ref nm, .int mfromHour, .int mtoHour, .ref ns, .int mfrom, .int mto, .int msort, .int misFault, .int mdeep, .int mcoded, .int mlines, .ref nl, .ref nc, .ref nF, .ref np, .ref ntr, .ref nb, .int mbestCost, .ref nso, .ref nsi, .ref nit, .ref nsh, .ref nsf, .ref nss, .ref nrc, .int (nI jr15998), .int (nI jd), .int mnumber, .int mwhose, .int msize, .int misParted])), (nrc, .inl (G.2.1, 30, .inl gtrc5999))] := hD
  have w6000 := hr5996
  refine lv_aload_n hx hb dX12_body_164 rfl (lv_at hl 0 rfl) ?_
  refine lv_aload_n hx hb dX12_body_165 rfl (lv_at hl 0 rfl) ?_
  refine gf_X12_375 hC rfl hK hP 0 rfl rfl dX12_body_166 ?_
  refine lv_aload_n hx hb dX12_body_169 rfl (lv_at hl 0 rfl) ?_
  refine gf_X12_378 hC rfl hK hP 0 rfl rfl dX12_body_170 ?_
  refine lv_icmp_ne (tgt := 180) hx hb dX12_body_173 (by decide) (fun c_173_6001 => ?_) (fun c_173_6001 => ?_)
  · refine lv_iconst (v := 0) hx hb dX12_body_180 (by decide) ?_
    refine pf_X12_380 hC rfl hK hP hD hS 0 (ws' := [(h0, .inr (12, [.ref nw, .ref nk, .int mhasKept, .ref nt, .int mtaped, .ref nr, .int mrowMany, .int mroundOf, .int mroundFrom, .int mouts, .ref nm, .int mfromHour, .int mtoHour, .ref ns, .int mfrom, .int mto, .int msort, .int misFault, .int mdeep, .int mcoded, .int mlines, .ref nl, .ref nc, .ref nF, .ref np, .ref ntr, .ref nb, .int mbestCost, .ref nso, .ref nsi, .ref nit, .ref nsh, .ref nsf, .ref nss, .ref nrc, .int (nI jr15998), .int (nI jd), .int mnumber, .int mwhose, .int msize, .int 0])), (nrc, .inl (G.2.1, 30, .inl gtrc5999))]) rfl (Nat.le_of_ble_eq_true rfl) rfl (by decide +kernel) (by decide +kernel) dX12_body_181 (fun H locs hP hD hS => ?_)
    refine lv_aload_n hx hb dX12_body_184 rfl (lv_at hl 0 rfl) ?_
    refine gf_X12_380 hC rfl hK hP 0 rfl rfl dX12_body_185 ?_
    refine lv_if_eq (tgt := 195) hx hb dX12_body_188 (by decide) (fun _ => ?_) (fun c9 => absurd (by decide) c9)
    refine lv_iload_n hx hb dX12_body_195 rfl (lv_at hl 3 rfl) ?_
    refine lv_aload_n hx hb dX12_body_196 rfl (lv_at hl 0 rfl) ?_
    refine gf_X12_375 hC rfl hK hP 0 rfl rfl dX12_body_197 ?_
    refine lv_aload_n hx hb dX12_body_200 rfl (lv_at hl 0 rfl) ?_
    refine gf_X12_378 hC rfl hK hP 0 rfl rfl dX12_body_201 ?_
    refine lv_isub hx hb dX12_body_204 ?_
    refine lv_idiv hx hb dX12_body_205 (nz_sub c_173_6001) ?_
    refine lv_topi (fun x6002 ex6002 => ?_)
    exact RI (v := x6002) hC hP hD hS [0, 1] (jr15998, 0, gtrc5999) rfl rfl (by decide) (⟨trivial, by omega⟩) rfl dX12_body_206
  · refine lv_iconst (v := 1) hx hb dX12_body_176 (by decide) ?_
    refine lv_goto (tgt := 181) hx hb dX12_body_177 (by decide) ?_
    refine pf_X12_380 hC rfl hK hP hD hS 0 (ws' := [(h0, .inr (12, [.ref nw, .ref nk, .int mhasKept, .ref nt, .int mtaped, .ref nr, .int mrowMany, .int mroundOf, .int mroundFrom, .int mouts, .ref nm, .int mfromHour, .int mtoHour, .ref ns, .int mfrom, .int mto, .int msort, .int misFault, .int mdeep, .int mcoded, .int mlines, .ref nl, .ref nc, .ref nF, .ref np, .ref ntr, .ref nb, .int mbestCost, .ref nso, .ref nsi, .ref nit, .ref nsh, .ref nsf, .ref nss, .ref nrc, .int (nI jr15998), .int (nI jd), .int mnumber, .int mwhose, .int msize, .int 1])), (nrc, .inl (G.2.1, 30, .inl gtrc5999))]) rfl (Nat.le_of_ble_eq_true rfl) rfl (by decide +kernel) (by decide +kernel) dX12_body_181 (fun H locs hP hD hS => ?_)
    refine lv_aload_n hx hb dX12_body_184 rfl (lv_at hl 0 rfl) ?_
    refine gf_X12_380 hC rfl hK hP 0 rfl rfl dX12_body_185 ?_
    refine lv_if_eq (tgt := 195) hx hb dX12_body_188 (by decide) (fun c9 => absurd c9 (by decide)) (fun _ => ?_)
    refine lv_iconst (v := 0) hx hb dX12_body_191 (by decide) ?_
    refine lv_goto (tgt := 206) hx hb dX12_body_192 (by decide) ?_
    exact RI (v := 0) hC hP hD hS [0, 1] (jr15998, 1, gtrc5999) rfl rfl (by decide) (⟨trivial, by omega⟩) rfl dX12_body_206
set_option maxHeartbeats 4000000 in
set_option maxRecDepth 100000 in
theorem m_from03 (l : Launch) (G : GG) (h0 : Nat) (xx : Int32) (nw : Nat) (nk : Nat) (mhasKept : Int32) (nt : Nat) (mtaped : Int32) (nr : Nat) (mrowMany : Int32) (mroundOf : Int32) (mroundFrom : Int32) (mouts : Int32) (nm : Nat) (mfromHour : Int32) (mtoHour : Int32) (ns : Nat) (mfrom : Int32) (mto : Int32) (msort : Int32) (misFault : Int32) (mdeep : Int32) (mcoded : Int32) (mlines : Int32) (nl : Nat) (nc : Nat) (nF : Nat) (np : Nat) (ntr : Nat) (nb : Nat) (mbestCost : Int32) (nso : Nat) (nsi : Nat) (nit : Nat) (nsh : Nat) (nsf : Nat) (nss : Nat) (nrc : Nat) (jr : Nat) (jd : Nat) (mnumber : Int32) (mwhose : Int32) (msize : Int32) (misParted : Int32) (fnrc : Nat → Int32) (hjr : jr ≤ 30) (hjd : jd < 7) : MI l G yX12_bodyFrom cX12_bodyFrom 5 (some .int) 40 0 0 [.ref h0, .int 0, .int 3, .int xx] [(h0, .inr (12, [.ref nw, .ref nk, .int mhasKept, .ref nt, .int mtaped, .ref nr, .int mrowMany, .int mroundOf, .int mroundFrom, .int mouts, .ref nm, .int mfromHour, .int mtoHour, .ref ns, .int mfrom, .int mto, .int msort, .int misFault, .int mdeep, .int mcoded, .int mlines, .ref nl, .ref nc, .ref nF, .ref np, .ref ntr, .ref nb, .int mbestCost, .ref nso, .ref nsi, .ref nit, .ref nsh, .ref nsf, .ref nss, .ref nrc, .int (nI jr), .int (nI jd), .int mnumber, .int mwhose, .int msize, .int misParted])), (nrc, .inl (G.2.1, 30, .inl fnrc))] (fun (r : Int32) (u : Nat × Int32 × (Nat → Int32)) => (True) ∧ (u.1 ≤ 30)) (fun u : Nat × Int32 × (Nat → Int32) => [(h0, .inr (12, [.ref nw, .ref nk, .int mhasKept, .ref nt, .int mtaped, .ref nr, .int mrowMany, .int mroundOf, .int mroundFrom, .int mouts, .ref nm, .int mfromHour, .int mtoHour, .ref ns, .int mfrom, .int mto, .int msort, .int misFault, .int mdeep, .int mcoded, .int mlines, .ref nl, .ref nc, .ref nF, .ref np, .ref ntr, .ref nb, .int mbestCost, .ref nso, .ref nsi, .ref nit, .ref nsh, .ref nsf, .ref nss, .ref nrc, .int (nI u.1), .int (nI jd), .int mnumber, .int mwhose, .int msize, .int u.2.1])), (nrc, .inl (G.2.1, 30, .inl u.2.2))]) := by
  refine MI.start (by decide +kernel) (Nat.le_of_ble_eq_true rfl) ?_
  intro p e s m below meth c A ls hC hK hP hD hS hA hl
  have hl : lv_has ls 5 [(0, .ref h0), (1, .int 0), (2, .int 3), (3, .int xx)] := hl
  obtain ⟨hx, hb, hr, hml, hB, hown, hlocks, hnm⟩ := id hC
  refine lv_iload_n hx hb dX12_bodyFrom_0 rfl (lv_at hl 1 rfl) ?_
  refine lv_istore (lv' := [(4, .int 0), (0, .ref h0), (1, .int 0), (2, .int 3), (3, .int xx)]) hx hb dX12_bodyFrom_1 hl (by decide) rfl (fun ls hl => ?_)
  refine lv_iload hx hb dX12_bodyFrom_3 (lv_at hl 0 rfl) ?_
  refine lv_iload_n hx hb dX12_bodyFrom_5 rfl (lv_at hl 3 rfl) ?_
  refine pS hC hK hl (m_hasOwn03 l G) si_X12_360 rfl rfl (Nat.le_of_ble_eq_true rfl) ⟨Nat.le_of_ble_eq_true rfl, Nat.le_of_ble_eq_true rfl⟩ ⟨by first | exact Nat.le_of_ble_eq_true rfl | exact Nat.zero_le _, by first | exact Nat.le_of_ble_eq_true rfl | exact Nat.zero_le _⟩ dX12_bodyFrom_6 (fun r6003 hr6003 => ?_)
  obtain rfl := hr6003
  refine lv_if_ne (tgt := 22) hx hb dX12_bodyFrom_9 (by decide) (fun _ => ?_) (fun c9 => absurd c9 (by decide))
  refine lv_aload_n hx hb dX12_bodyFrom_22 rfl (lv_at hl 1 rfl) ?_
  refine lv_iload hx hb dX12_bodyFrom_23 (lv_at hl 0 rfl) ?_
  refine lv_iload_n hx hb dX12_bodyFrom_25 rfl (lv_at hl 3 rfl) ?_
  refine lv_iload_n hx hb dX12_bodyFrom_26 rfl (lv_at hl 4 rfl) ?_
  refine iV (wr := []) hC hK hl hP hD hS hA (m_body03 l G h0 xx nw nk mhasKept nt mtaped nr mrowMany mroundOf mroundFrom mouts nm mfromHour mtoHour ns mfrom mto msort misFault mdeep mcoded mlines nl nc nF np ntr nb mbestCost nso nsi nit nsh nsf nss nrc jr jd mnumber mwhose msize misParted fnrc (by omega) (by omega)) si_X12_363 [0, 1] [] rfl rfl (by decide) rfl (by decide) (by decide) rfl rfl rfl rfl rfl (Nat.le_of_ble_eq_true rfl) ⟨Nat.le_of_ble_eq_true rfl, Nat.le_of_ble_eq_true rfl⟩ ⟨Nat.le_of_ble_eq_true rfl, Nat.le_of_ble_eq_true rfl⟩ dX12_bodyFrom_27 (fun r6005 u6006 H locs hr6005 hP hD hS => ?_)
  obtain ⟨jr16007, ip16008, gtrc6009⟩ := u6006
  try dsimp only at hr6005
  have hP : va_P G.1 vwCl [(h0, .inr (12, [.ref nw, .ref nk, .int mhasKept, .ref nt, .int mtaped, .ref nr, .int mrowMany, .int mroundOf, .int mroundFrom, .int mouts, .ref nm, .int mfromHour, .int mtoHour, .ref ns, .int mfrom, .int mto, .int msort, .int misFault, .int mdeep, .int mcoded, .int mlines, .ref nl, .ref nc, .ref nF, .ref np, .ref ntr, .ref nb, .int mbestCost, .ref nso, .ref nsi, .ref nit, .ref nsh, .ref nsf, .ref nss, .ref nrc, .int (nI jr16007), .int (nI jd), .int mnumber, .int mwhose, .int msize, .int ip16008])), (nrc, .inl (G.2.1, 30, .inl gtrc6009))] H := hP
  have hD : va_D A [(h0, .inr (12, [.ref nw, .ref nk, .int mhasKept, .ref nt, .int mtaped, .ref nr, .int mrowMany, .int mroundOf, .int mroundFrom, .int mouts, .ref nm, .int mfromHour, .int mtoHour, .ref ns, .int mfrom, .int mto, .int msort, .int misFault, .int mdeep, .int mcoded, .int mlines, .ref nl, .ref nc, .ref nF, .ref np, .ref ntr, .ref nb, .int mbestCost, .ref nso, .ref nsi, .ref nit, .ref nsh, .ref nsf, .ref nss, .ref nrc, .int (nI jr16007), .int (nI jd), .int mnumber, .int mwhose, .int msize, .int ip16008])), (nrc, .inl (G.2.1, 30, .inl gtrc6009))] := hD
  obtain ⟨hr6005, w6010⟩ := hr6005
  exact RI (v := r6005) hC hP hD hS [0, 1] (jr16007, ip16008, gtrc6009) rfl rfl (by decide) (⟨trivial, by omega⟩) rfl dX12_bodyFrom_30
set_option maxHeartbeats 4000000 in
set_option maxRecDepth 100000 in
theorem m_from13 (l : Launch) (G : GG) (h0 : Nat) (xx : Int32) (nw : Nat) (nk : Nat) (mhasKept : Int32) (nt : Nat) (mtaped : Int32) (nr : Nat) (mrowMany : Int32) (mroundOf : Int32) (mroundFrom : Int32) (mouts : Int32) (nm : Nat) (mfromHour : Int32) (mtoHour : Int32) (ns : Nat) (mfrom : Int32) (mto : Int32) (msort : Int32) (misFault : Int32) (mdeep : Int32) (mcoded : Int32) (mlines : Int32) (nl : Nat) (nc : Nat) (nF : Nat) (np : Nat) (ntr : Nat) (nb : Nat) (mbestCost : Int32) (nso : Nat) (nsi : Nat) (nit : Nat) (nsh : Nat) (nsf : Nat) (nss : Nat) (nrc : Nat) (jr : Nat) (jd : Nat) (mnumber : Int32) (mwhose : Int32) (msize : Int32) (misParted : Int32) (fnrc : Nat → Int32) (hjr : jr ≤ 30) (hjd : jd < 7) : MI l G yX12_bodyFrom cX12_bodyFrom 5 (some .int) 42 0 0 [.ref h0, .int 1, .int 3, .int xx] [(h0, .inr (12, [.ref nw, .ref nk, .int mhasKept, .ref nt, .int mtaped, .ref nr, .int mrowMany, .int mroundOf, .int mroundFrom, .int mouts, .ref nm, .int mfromHour, .int mtoHour, .ref ns, .int mfrom, .int mto, .int msort, .int misFault, .int mdeep, .int mcoded, .int mlines, .ref nl, .ref nc, .ref nF, .ref np, .ref ntr, .ref nb, .int mbestCost, .ref nso, .ref nsi, .ref nit, .ref nsh, .ref nsf, .ref nss, .ref nrc, .int (nI jr), .int (nI jd), .int mnumber, .int mwhose, .int msize, .int misParted])), (nrc, .inl (G.2.1, 30, .inl fnrc))] (fun (r : Int32) (u : Nat × Int32 × (Nat → Int32)) => (True) ∧ (u.1 ≤ 30)) (fun u : Nat × Int32 × (Nat → Int32) => [(h0, .inr (12, [.ref nw, .ref nk, .int mhasKept, .ref nt, .int mtaped, .ref nr, .int mrowMany, .int mroundOf, .int mroundFrom, .int mouts, .ref nm, .int mfromHour, .int mtoHour, .ref ns, .int mfrom, .int mto, .int msort, .int misFault, .int mdeep, .int mcoded, .int mlines, .ref nl, .ref nc, .ref nF, .ref np, .ref ntr, .ref nb, .int mbestCost, .ref nso, .ref nsi, .ref nit, .ref nsh, .ref nsf, .ref nss, .ref nrc, .int (nI u.1), .int (nI jd), .int mnumber, .int mwhose, .int msize, .int u.2.1])), (nrc, .inl (G.2.1, 30, .inl u.2.2))]) := by
  refine MI.start (by decide +kernel) (Nat.le_of_ble_eq_true rfl) ?_
  intro p e s m below meth c A ls hC hK hP hD hS hA hl
  have hl : lv_has ls 5 [(0, .ref h0), (1, .int 1), (2, .int 3), (3, .int xx)] := hl
  obtain ⟨hx, hb, hr, hml, hB, hown, hlocks, hnm⟩ := id hC
  refine lv_iload_n hx hb dX12_bodyFrom_0 rfl (lv_at hl 1 rfl) ?_
  refine lv_istore (lv' := [(4, .int 1), (0, .ref h0), (1, .int 1), (2, .int 3), (3, .int xx)]) hx hb dX12_bodyFrom_1 hl (by decide) rfl (fun ls hl => ?_)
  refine lv_iload hx hb dX12_bodyFrom_3 (lv_at hl 0 rfl) ?_
  refine lv_iload_n hx hb dX12_bodyFrom_5 rfl (lv_at hl 3 rfl) ?_
  refine pS hC hK hl (m_hasOwn13 l G) si_X12_360 rfl rfl (Nat.le_of_ble_eq_true rfl) ⟨Nat.le_of_ble_eq_true rfl, Nat.le_of_ble_eq_true rfl⟩ ⟨by first | exact Nat.le_of_ble_eq_true rfl | exact Nat.zero_le _, by first | exact Nat.le_of_ble_eq_true rfl | exact Nat.zero_le _⟩ dX12_bodyFrom_6 (fun r6011 hr6011 => ?_)
  obtain rfl := hr6011
  refine lv_if_ne (tgt := 22) hx hb dX12_bodyFrom_9 (by decide) (fun c9 => absurd (by decide) c9) (fun _ => ?_)
  refine lv_iload hx hb dX12_bodyFrom_12 (lv_at hl 0 rfl) ?_
  refine pS hC hK hl (m_above1 l G) si_X12_348 rfl rfl (Nat.le_of_ble_eq_true rfl) ⟨Nat.le_of_ble_eq_true rfl, Nat.le_of_ble_eq_true rfl⟩ ⟨by first | exact Nat.le_of_ble_eq_true rfl | exact Nat.zero_le _, by first | exact Nat.le_of_ble_eq_true rfl | exact Nat.zero_le _⟩ dX12_bodyFrom_14 (fun r6013 hr6013 => ?_)
  obtain rfl := hr6013
  refine lv_istore (lv' := [(4, .int 0), (0, .ref h0), (1, .int 1), (2, .int 3), (3, .int xx)]) hx hb dX12_bodyFrom_17 hl (by decide) rfl (fun ls hl => ?_)
  refine lv_goto (tgt := 3) hx hb dX12_bodyFrom_19 (by decide) ?_
  refine lv_iload hx hb dX12_bodyFrom_3 (lv_at hl 0 rfl) ?_
  refine lv_iload_n hx hb dX12_bodyFrom_5 rfl (lv_at hl 3 rfl) ?_
  refine pS hC hK hl (m_hasOwn03 l G) si_X12_360 rfl rfl (Nat.le_of_ble_eq_true rfl) ⟨Nat.le_of_ble_eq_true rfl, Nat.le_of_ble_eq_true rfl⟩ ⟨by first | exact Nat.le_of_ble_eq_true rfl | exact Nat.zero_le _, by first | exact Nat.le_of_ble_eq_true rfl | exact Nat.zero_le _⟩ dX12_bodyFrom_6 (fun r6015 hr6015 => ?_)
  obtain rfl := hr6015
  refine lv_if_ne (tgt := 22) hx hb dX12_bodyFrom_9 (by decide) (fun _ => ?_) (fun c9 => absurd c9 (by decide))
  refine lv_aload_n hx hb dX12_bodyFrom_22 rfl (lv_at hl 1 rfl) ?_
  refine lv_iload hx hb dX12_bodyFrom_23 (lv_at hl 0 rfl) ?_
  refine lv_iload_n hx hb dX12_bodyFrom_25 rfl (lv_at hl 3 rfl) ?_
  refine lv_iload_n hx hb dX12_bodyFrom_26 rfl (lv_at hl 4 rfl) ?_
  refine iV (wr := []) hC hK hl hP hD hS hA (m_body03 l G h0 xx nw nk mhasKept nt mtaped nr mrowMany mroundOf mroundFrom mouts nm mfromHour mtoHour ns mfrom mto msort misFault mdeep mcoded mlines nl nc nF np ntr nb mbestCost nso nsi nit nsh nsf nss nrc jr jd mnumber mwhose msize misParted fnrc (by omega) (by omega)) si_X12_363 [0, 1] [] rfl rfl (by decide) rfl (by decide) (by decide) rfl rfl rfl rfl rfl (Nat.le_of_ble_eq_true rfl) ⟨Nat.le_of_ble_eq_true rfl, Nat.le_of_ble_eq_true rfl⟩ ⟨Nat.le_of_ble_eq_true rfl, Nat.le_of_ble_eq_true rfl⟩ dX12_bodyFrom_27 (fun r6017 u6018 H locs hr6017 hP hD hS => ?_)
  obtain ⟨jr16019, ip16020, gtrc6021⟩ := u6018
  try dsimp only at hr6017
  have hP : va_P G.1 vwCl [(h0, .inr (12, [.ref nw, .ref nk, .int mhasKept, .ref nt, .int mtaped, .ref nr, .int mrowMany, .int mroundOf, .int mroundFrom, .int mouts, .ref nm, .int mfromHour, .int mtoHour, .ref ns, .int mfrom, .int mto, .int msort, .int misFault, .int mdeep, .int mcoded, .int mlines, .ref nl, .ref nc, .ref nF, .ref np, .ref ntr, .ref nb, .int mbestCost, .ref nso, .ref nsi, .ref nit, .ref nsh, .ref nsf, .ref nss, .ref nrc, .int (nI jr16019), .int (nI jd), .int mnumber, .int mwhose, .int msize, .int ip16020])), (nrc, .inl (G.2.1, 30, .inl gtrc6021))] H := hP
  have hD : va_D A [(h0, .inr (12, [.ref nw, .ref nk, .int mhasKept, .ref nt, .int mtaped, .ref nr, .int mrowMany, .int mroundOf, .int mroundFrom, .int mouts, .ref nm, .int mfromHour, .int mtoHour, .ref ns, .int mfrom, .int mto, .int msort, .int misFault, .int mdeep, .int mcoded, .int mlines, .ref nl, .ref nc, .ref nF, .ref np, .ref ntr, .ref nb, .int mbestCost, .ref nso, .ref nsi, .ref nit, .ref nsh, .ref nsf, .ref nss, .ref nrc, .int (nI jr16019), .int (nI jd), .int mnumber, .int mwhose, .int msize, .int ip16020])), (nrc, .inl (G.2.1, 30, .inl gtrc6021))] := hD
  obtain ⟨hr6017, w6022⟩ := hr6017
  exact RI (v := r6017) hC hP hD hS [0, 1] (jr16019, ip16020, gtrc6021) rfl rfl (by decide) (⟨trivial, by omega⟩) rfl dX12_bodyFrom_30
set_option maxHeartbeats 4000000 in
set_option maxRecDepth 100000 in
theorem m_body33 (l : Launch) (G : GG) (h0 : Nat) (xx : Int32) (nw : Nat) (nk : Nat) (mhasKept : Int32) (nt : Nat) (mtaped : Int32) (nr : Nat) (mrowMany : Int32) (mroundOf : Int32) (mroundFrom : Int32) (mouts : Int32) (nm : Nat) (mfromHour : Int32) (mtoHour : Int32) (ns : Nat) (mfrom : Int32) (mto : Int32) (msort : Int32) (misFault : Int32) (mdeep : Int32) (mcoded : Int32) (mlines : Int32) (nl : Nat) (nc : Nat) (nF : Nat) (np : Nat) (ntr : Nat) (nb : Nat) (mbestCost : Int32) (nso : Nat) (nsi : Nat) (nit : Nat) (nsh : Nat) (nsf : Nat) (nss : Nat) (nrc : Nat) (jr : Nat) (jd : Nat) (mnumber : Int32) (mwhose : Int32) (msize : Int32) (misParted : Int32) (fnrc : Nat → Int32) (hjr : jr ≤ 30) (hjd : jd < 7) : MI l G yX12_body cX12_body 6 (some .int) 43 0 0 [.ref h0, .int 3, .int 3, .int xx] [(h0, .inr (12, [.ref nw, .ref nk, .int mhasKept, .ref nt, .int mtaped, .ref nr, .int mrowMany, .int mroundOf, .int mroundFrom, .int mouts, .ref nm, .int mfromHour, .int mtoHour, .ref ns, .int mfrom, .int mto, .int msort, .int misFault, .int mdeep, .int mcoded, .int mlines, .ref nl, .ref nc, .ref nF, .ref np, .ref ntr, .ref nb, .int mbestCost, .ref nso, .ref nsi, .ref nit, .ref nsh, .ref nsf, .ref nss, .ref nrc, .int (nI jr), .int (nI jd), .int mnumber, .int mwhose, .int msize, .int misParted])), (nrc, .inl (G.2.1, 30, .inl fnrc))] (fun (r : Int32) (u : Nat × Int32 × (Nat → Int32)) => (True) ∧ (u.1 ≤ 30)) (fun u : Nat × Int32 × (Nat → Int32) => [(h0, .inr (12, [.ref nw, .ref nk, .int mhasKept, .ref nt, .int mtaped, .ref nr, .int mrowMany, .int mroundOf, .int mroundFrom, .int mouts, .ref nm, .int mfromHour, .int mtoHour, .ref ns, .int mfrom, .int mto, .int msort, .int misFault, .int mdeep, .int mcoded, .int mlines, .ref nl, .ref nc, .ref nF, .ref np, .ref ntr, .ref nb, .int mbestCost, .ref nso, .ref nsi, .ref nit, .ref nsh, .ref nsf, .ref nss, .ref nrc, .int (nI u.1), .int (nI jd), .int mnumber, .int mwhose, .int msize, .int u.2.1])), (nrc, .inl (G.2.1, 30, .inl u.2.2))]) := by
  refine MI.start (by decide +kernel) (Nat.le_of_ble_eq_true rfl) ?_
  intro p e s m below meth c A ls hC hK hP hD hS hA hl
  have hl : lv_has ls 6 [(0, .ref h0), (1, .int 3), (2, .int 3), (3, .int xx)] := hl
  obtain ⟨hx, hb, hr, hml, hB, hown, hlocks, hnm⟩ := id hC
  refine lv_iconst (v := 4) hx hb dX12_body_0 (by decide) ?_
  refine lv_iload_n hx hb dX12_body_1 rfl (lv_at hl 1 rfl) ?_
  refine lv_imul hx hb dX12_body_2 ?_
  refine eqi (x1 := 12) (by decide) ?_
  refine lv_iload_n hx hb dX12_body_3 rfl (lv_at hl 2 rfl) ?_
  refine lv_iadd hx hb dX12_body_4 ?_
  refine eqi (x1 := 15) (by decide) ?_
  refine lv_tableIn (tgt := 258) hx hb dX12_body_5 (by decide) (by decide) rfl (by decide) ?_
  refine lv_aload_n hx hb dX12_body_258 rfl (lv_at hl 0 rfl) ?_
  refine lv_bipush (v := 41) hx hb dX12_body_259 (by decide) ?_
  refine vV (wr := []) hC hK hl hP hD hS hA (m_began l G h0 41 nw nk mhasKept nt mtaped nr mrowMany mroundOf mroundFrom mouts nm mfromHour mtoHour ns mfrom mto msort misFault mdeep mcoded mlines nl nc nF np ntr nb mbestCost nso nsi nit nsh nsf nss nrc jr (nI jd) mnumber mwhose msize misParted fnrc (by omega)) si_X12_366 [0, 1] [] rfl rfl (by decide) rfl (by decide) (by decide) rfl rfl rfl rfl rfl (Nat.le_of_ble_eq_true rfl) ⟨Nat.le_of_ble_eq_true rfl, Nat.le_of_ble_eq_true rfl⟩ ⟨Nat.le_of_ble_eq_true rfl, Nat.le_of_ble_eq_true rfl⟩ dX12_body_261 (fun u6024 H locs hr6023 hP hD hS => ?_)
  obtain ⟨jr16025, gtrc6026⟩ := u6024
  try dsimp only at hr6023
  have hP : va_P G.1 vwCl [(h0, .inr (12, [.ref nw, .ref nk, .int mhasKept, .ref nt, .int mtaped, .ref nr, .int mrowMany, .int mroundOf, .int mroundFrom, .int mouts, .ref nm, .int mfromHour, .int mtoHour, .ref ns, .int mfrom, .int mto, .int msort, .int misFault, .int mdeep, .int mcoded, .int mlines, .ref nl, .ref nc, .ref nF, .ref np, .ref ntr, .ref nb, .int mbestCost, .ref nso, .ref nsi, .ref nit, .ref nsh, .ref nsf, .ref nss, .ref nrc, .int (nI jr16025), .int (nI jd), .int mnumber, .int mwhose, .int msize, .int misParted])), (nrc, .inl (G.2.1, 30, .inl gtrc6026))] H := hP
  have hD : va_D A [(h0, .inr (12, [.ref nw, .ref nk, .int mhasKept, .ref nt, .int mtaped, .ref nr, .int mrowMany, .int mroundOf, .int mroundFrom, .int mouts, .ref nm, .int mfromHour, .int mtoHour, .ref ns, .int mfrom, .int mto, .int msort, .int misFault, .int mdeep, .int mcoded, .int mlines, .ref nl, .ref nc, .ref nF, .ref np, .ref ntr, .ref nb, .int mbestCost, .ref nso, .ref nsi, .ref nit, .ref nsh, .ref nsf, .ref nss, .ref nrc, .int (nI jr16025), .int (nI jd), .int mnumber, .int mwhose, .int msize, .int misParted])), (nrc, .inl (G.2.1, 30, .inl gtrc6026))] := hD
  have w6027 := hr6023
  refine lv_aload_n hx hb dX12_body_264 rfl (lv_at hl 0 rfl) ?_
  refine lv_iconst (v := 1) hx hb dX12_body_265 (by decide) ?_
  refine lv_iconst (v := 3) hx hb dX12_body_266 (by decide) ?_
  refine lv_iload_n hx hb dX12_body_267 rfl (lv_at hl 3 rfl) ?_
  refine lv_iconst (v := 2) hx hb dX12_body_268 (by decide) ?_
  refine lv_iadd hx hb dX12_body_269 ?_
  refine iV (wr := []) hC hK hl hP hD hS hA (m_from13 l G h0 (xx + 2) nw nk mhasKept nt mtaped nr mrowMany mroundOf mroundFrom mouts nm mfromHour mtoHour ns mfrom mto msort misFault mdeep mcoded mlines nl nc nF np ntr nb mbestCost nso nsi nit nsh nsf nss nrc jr16025 jd mnumber mwhose msize misParted gtrc6026 (by omega) (by omega)) si_X12_357 [0, 1] [] rfl rfl (by decide) rfl (by decide) (by decide) rfl rfl rfl rfl rfl (Nat.le_of_ble_eq_true rfl) ⟨Nat.le_of_ble_eq_true rfl, Nat.le_of_ble_eq_true rfl⟩ ⟨Nat.le_of_ble_eq_true rfl, Nat.le_of_ble_eq_true rfl⟩ dX12_body_270 (fun r6028 u6029 H locs hr6028 hP hD hS => ?_)
  obtain ⟨jr16030, ip16031, gtrc6032⟩ := u6029
  try dsimp only at hr6028
  have hP : va_P G.1 vwCl [(h0, .inr (12, [.ref nw, .ref nk, .int mhasKept, .ref nt, .int mtaped, .ref nr, .int mrowMany, .int mroundOf, .int mroundFrom, .int mouts, .ref nm, .int mfromHour, .int mtoHour, .ref ns, .int mfrom, .int mto, .int msort, .int misFault, .int mdeep, .int mcoded, .int mlines, .ref nl, .ref nc, .ref nF, .ref np, .ref ntr, .ref nb, .int mbestCost, .ref nso, .ref nsi, .ref nit, .ref nsh, .ref nsf, .ref nss, .ref nrc, .int (nI jr16030), .int (nI jd), .int mnumber, .int mwhose, .int msize, .int ip16031])), (nrc, .inl (G.2.1, 30, .inl gtrc6032))] H := hP
  have hD : va_D A [(h0, .inr (12, [.ref nw, .ref nk, .int mhasKept, .ref nt, .int mtaped, .ref nr, .int mrowMany, .int mroundOf, .int mroundFrom, .int mouts, .ref nm, .int mfromHour, .int mtoHour, .ref ns, .int mfrom, .int mto, .int msort, .int misFault, .int mdeep, .int mcoded, .int mlines, .ref nl, .ref nc, .ref nF, .ref np, .ref ntr, .ref nb, .int mbestCost, .ref nso, .ref nsi, .ref nit, .ref nsh, .ref nsf, .ref nss, .ref nrc, .int (nI jr16030), .int (nI jd), .int mnumber, .int mwhose, .int msize, .int ip16031])), (nrc, .inl (G.2.1, 30, .inl gtrc6032))] := hD
  obtain ⟨hr6028, w6033⟩ := hr6028
  exact RI (v := r6028) hC hP hD hS [0, 1] (jr16030, ip16031, gtrc6032) rfl rfl (by decide) (⟨trivial, by omega⟩) rfl dX12_body_273
set_option maxHeartbeats 4000000 in
set_option maxRecDepth 100000 in
theorem m_from33 (l : Launch) (G : GG) (h0 : Nat) (xx : Int32) (nw : Nat) (nk : Nat) (mhasKept : Int32) (nt : Nat) (mtaped : Int32) (nr : Nat) (mrowMany : Int32) (mroundOf : Int32) (mroundFrom : Int32) (mouts : Int32) (nm : Nat) (mfromHour : Int32) (mtoHour : Int32) (ns : Nat) (mfrom : Int32) (mto : Int32) (msort : Int32) (misFault : Int32) (mdeep : Int32) (mcoded : Int32) (mlines : Int32) (nl : Nat) (nc : Nat) (nF : Nat) (np : Nat) (ntr : Nat) (nb : Nat) (mbestCost : Int32) (nso : Nat) (nsi : Nat) (nit : Nat) (nsh : Nat) (nsf : Nat) (nss : Nat) (nrc : Nat) (jr : Nat) (jd : Nat) (mnumber : Int32) (mwhose : Int32) (msize : Int32) (misParted : Int32) (fnrc : Nat → Int32) (hjr : jr ≤ 30) (hjd : jd < 7) : MI l G yX12_bodyFrom cX12_bodyFrom 5 (some .int) 44 0 0 [.ref h0, .int 3, .int 3, .int xx] [(h0, .inr (12, [.ref nw, .ref nk, .int mhasKept, .ref nt, .int mtaped, .ref nr, .int mrowMany, .int mroundOf, .int mroundFrom, .int mouts, .ref nm, .int mfromHour, .int mtoHour, .ref ns, .int mfrom, .int mto, .int msort, .int misFault, .int mdeep, .int mcoded, .int mlines, .ref nl, .ref nc, .ref nF, .ref np, .ref ntr, .ref nb, .int mbestCost, .ref nso, .ref nsi, .ref nit, .ref nsh, .ref nsf, .ref nss, .ref nrc, .int (nI jr), .int (nI jd), .int mnumber, .int mwhose, .int msize, .int misParted])), (nrc, .inl (G.2.1, 30, .inl fnrc))] (fun (r : Int32) (u : Nat × Int32 × (Nat → Int32)) => (True) ∧ (u.1 ≤ 30)) (fun u : Nat × Int32 × (Nat → Int32) => [(h0, .inr (12, [.ref nw, .ref nk, .int mhasKept, .ref nt, .int mtaped, .ref nr, .int mrowMany, .int mroundOf, .int mroundFrom, .int mouts, .ref nm, .int mfromHour, .int mtoHour, .ref ns, .int mfrom, .int mto, .int msort, .int misFault, .int mdeep, .int mcoded, .int mlines, .ref nl, .ref nc, .ref nF, .ref np, .ref ntr, .ref nb, .int mbestCost, .ref nso, .ref nsi, .ref nit, .ref nsh, .ref nsf, .ref nss, .ref nrc, .int (nI u.1), .int (nI jd), .int mnumber, .int mwhose, .int msize, .int u.2.1])), (nrc, .inl (G.2.1, 30, .inl u.2.2))]) := by
  refine MI.start (by decide +kernel) (Nat.le_of_ble_eq_true rfl) ?_
  intro p e s m below meth c A ls hC hK hP hD hS hA hl
  have hl : lv_has ls 5 [(0, .ref h0), (1, .int 3), (2, .int 3), (3, .int xx)] := hl
  obtain ⟨hx, hb, hr, hml, hB, hown, hlocks, hnm⟩ := id hC
  refine lv_iload_n hx hb dX12_bodyFrom_0 rfl (lv_at hl 1 rfl) ?_
  refine lv_istore (lv' := [(4, .int 3), (0, .ref h0), (1, .int 3), (2, .int 3), (3, .int xx)]) hx hb dX12_bodyFrom_1 hl (by decide) rfl (fun ls hl => ?_)
  refine lv_iload hx hb dX12_bodyFrom_3 (lv_at hl 0 rfl) ?_
  refine lv_iload_n hx hb dX12_bodyFrom_5 rfl (lv_at hl 3 rfl) ?_
  refine pS hC hK hl (m_hasOwn33 l G) si_X12_360 rfl rfl (Nat.le_of_ble_eq_true rfl) ⟨Nat.le_of_ble_eq_true rfl, Nat.le_of_ble_eq_true rfl⟩ ⟨by first | exact Nat.le_of_ble_eq_true rfl | exact Nat.zero_le _, by first | exact Nat.le_of_ble_eq_true rfl | exact Nat.zero_le _⟩ dX12_bodyFrom_6 (fun r6034 hr6034 => ?_)
  obtain rfl := hr6034
  refine lv_if_ne (tgt := 22) hx hb dX12_bodyFrom_9 (by decide) (fun _ => ?_) (fun c9 => absurd c9 (by decide))
  refine lv_aload_n hx hb dX12_bodyFrom_22 rfl (lv_at hl 1 rfl) ?_
  refine lv_iload hx hb dX12_bodyFrom_23 (lv_at hl 0 rfl) ?_
  refine lv_iload_n hx hb dX12_bodyFrom_25 rfl (lv_at hl 3 rfl) ?_
  refine lv_iload_n hx hb dX12_bodyFrom_26 rfl (lv_at hl 4 rfl) ?_
  refine iV (wr := []) hC hK hl hP hD hS hA (m_body33 l G h0 xx nw nk mhasKept nt mtaped nr mrowMany mroundOf mroundFrom mouts nm mfromHour mtoHour ns mfrom mto msort misFault mdeep mcoded mlines nl nc nF np ntr nb mbestCost nso nsi nit nsh nsf nss nrc jr jd mnumber mwhose msize misParted fnrc (by omega) (by omega)) si_X12_363 [0, 1] [] rfl rfl (by decide) rfl (by decide) (by decide) rfl rfl rfl rfl rfl (Nat.le_of_ble_eq_true rfl) ⟨Nat.le_of_ble_eq_true rfl, Nat.le_of_ble_eq_true rfl⟩ ⟨Nat.le_of_ble_eq_true rfl, Nat.le_of_ble_eq_true rfl⟩ dX12_bodyFrom_27 (fun r6036 u6037 H locs hr6036 hP hD hS => ?_)
  obtain ⟨jr16038, ip16039, gtrc6040⟩ := u6037
  try dsimp only at hr6036
  have hP : va_P G.1 vwCl [(h0, .inr (12, [.ref nw, .ref nk, .int mhasKept, .ref nt, .int mtaped, .ref nr, .int mrowMany, .int mroundOf, .int mroundFrom, .int mouts, .ref nm, .int mfromHour, .int mtoHour, .ref ns, .int mfrom, .int mto, .int msort, .int misFault, .int mdeep, .int mcoded, .int mlines, .ref nl, .ref nc, .ref nF, .ref np, .ref ntr, .ref nb, .int mbestCost, .ref nso, .ref nsi, .ref nit, .ref nsh, .ref nsf, .ref nss, .ref nrc, .int (nI jr16038), .int (nI jd), .int mnumber, .int mwhose, .int msize, .int ip16039])), (nrc, .inl (G.2.1, 30, .inl gtrc6040))] H := hP
  have hD : va_D A [(h0, .inr (12, [.ref nw, .ref nk, .int mhasKept, .ref nt, .int mtaped, .ref nr, .int mrowMany, .int mroundOf, .int mroundFrom, .int mouts, .ref nm, .int mfromHour, .int mtoHour, .ref ns, .int mfrom, .int mto, .int msort, .int misFault, .int mdeep, .int mcoded, .int mlines, .ref nl, .ref nc, .ref nF, .ref np, .ref ntr, .ref nb, .int mbestCost, .ref nso, .ref nsi, .ref nit, .ref nsh, .ref nsf, .ref nss, .ref nrc, .int (nI jr16038), .int (nI jd), .int mnumber, .int mwhose, .int msize, .int ip16039])), (nrc, .inl (G.2.1, 30, .inl gtrc6040))] := hD
  obtain ⟨hr6036, w6041⟩ := hr6036
  exact RI (v := r6036) hC hP hD hS [0, 1] (jr16038, ip16039, gtrc6040) rfl rfl (by decide) (⟨trivial, by omega⟩) rfl dX12_bodyFrom_30
set_option maxHeartbeats 4000000 in
set_option maxRecDepth 100000 in
theorem m_body63 (l : Launch) (G : GG) (h0 : Nat) (xx : Int32) (nw : Nat) (nk : Nat) (mhasKept : Int32) (nt : Nat) (mtaped : Int32) (nr : Nat) (mrowMany : Int32) (mroundOf : Int32) (mroundFrom : Int32) (mouts : Int32) (nm : Nat) (mfromHour : Int32) (mtoHour : Int32) (ns : Nat) (mfrom : Int32) (mto : Int32) (msort : Int32) (misFault : Int32) (mdeep : Int32) (mcoded : Int32) (mlines : Int32) (nl : Nat) (nc : Nat) (nF : Nat) (np : Nat) (ntr : Nat) (nb : Nat) (mbestCost : Int32) (nso : Nat) (nsi : Nat) (nit : Nat) (nsh : Nat) (nsf : Nat) (nss : Nat) (nrc : Nat) (jr : Nat) (jd : Nat) (mnumber : Int32) (mwhose : Int32) (msize : Int32) (misParted : Int32) (fnrc : Nat → Int32) (hjr : jr ≤ 30) (hjd : jd < 7) : MI l G yX12_body cX12_body 6 (some .int) 45 0 0 [.ref h0, .int 6, .int 3, .int xx] [(h0, .inr (12, [.ref nw, .ref nk, .int mhasKept, .ref nt, .int mtaped, .ref nr, .int mrowMany, .int mroundOf, .int mroundFrom, .int mouts, .ref nm, .int mfromHour, .int mtoHour, .ref ns, .int mfrom, .int mto, .int msort, .int misFault, .int mdeep, .int mcoded, .int mlines, .ref nl, .ref nc, .ref nF, .ref np, .ref ntr, .ref nb, .int mbestCost, .ref nso, .ref nsi, .ref nit, .ref nsh, .ref nsf, .ref nss, .ref nrc, .int (nI jr), .int (nI jd), .int mnumber, .int mwhose, .int msize, .int misParted])), (nrc, .inl (G.2.1, 30, .inl fnrc))] (fun (r : Int32) (u : Nat × Int32 × (Nat → Int32)) => (True) ∧ (u.1 ≤ 30)) (fun u : Nat × Int32 × (Nat → Int32) => [(h0, .inr (12, [.ref nw, .ref nk, .int mhasKept, .ref nt, .int mtaped, .ref nr, .int mrowMany, .int mroundOf, .int mroundFrom, .int mouts, .ref nm, .int mfromHour, .int mtoHour, .ref ns, .int mfrom, .int mto, .int msort, .int misFault, .int mdeep, .int mcoded, .int mlines, .ref nl, .ref nc, .ref nF, .ref np, .ref ntr, .ref nb, .int mbestCost, .ref nso, .ref nsi, .ref nit, .ref nsh, .ref nsf, .ref nss, .ref nrc, .int (nI u.1), .int (nI jd), .int mnumber, .int mwhose, .int msize, .int u.2.1])), (nrc, .inl (G.2.1, 30, .inl u.2.2))]) := by
  refine MI.start (by decide +kernel) (Nat.le_of_ble_eq_true rfl) ?_
  intro p e s m below meth c A ls hC hK hP hD hS hA hl
  have hl : lv_has ls 6 [(0, .ref h0), (1, .int 6), (2, .int 3), (3, .int xx)] := hl
  obtain ⟨hx, hb, hr, hml, hB, hown, hlocks, hnm⟩ := id hC
  refine lv_iconst (v := 4) hx hb dX12_body_0 (by decide) ?_
  refine lv_iload_n hx hb dX12_body_1 rfl (lv_at hl 1 rfl) ?_
  refine lv_imul hx hb dX12_body_2 ?_
  refine eqi (x1 := 24) (by decide) ?_
  refine lv_iload_n hx hb dX12_body_3 rfl (lv_at hl 2 rfl) ?_
  refine lv_iadd hx hb dX12_body_4 ?_
  refine eqi (x1 := 27) (by decide) ?_
  refine lv_tableOut (tgt := 353) hx hb dX12_body_5 (by decide) (by decide) ?_
  refine lv_aload_n hx hb dX12_body_353 rfl (lv_at hl 0 rfl) ?_
  refine lv_bipush (v := 70) hx hb dX12_body_354 (by decide) ?_
  refine vV (wr := []) hC hK hl hP hD hS hA (m_began l G h0 70 nw nk mhasKept nt mtaped nr mrowMany mroundOf mroundFrom mouts nm mfromHour mtoHour ns mfrom mto msort misFault mdeep mcoded mlines nl nc nF np ntr nb mbestCost nso nsi nit nsh nsf nss nrc jr (nI jd) mnumber mwhose msize misParted fnrc (by omega)) si_X12_366 [0, 1] [] rfl rfl (by decide) rfl (by decide) (by decide) rfl rfl rfl rfl rfl (Nat.le_of_ble_eq_true rfl) ⟨Nat.le_of_ble_eq_true rfl, Nat.le_of_ble_eq_true rfl⟩ ⟨Nat.le_of_ble_eq_true rfl, Nat.le_of_ble_eq_true rfl⟩ dX12_body_356 (fun u6043 H locs hr6042 hP hD hS => ?_)
  obtain ⟨jr16044, gtrc6045⟩ := u6043
  try dsimp only at hr6042
  have hP : va_P G.1 vwCl [(h0, .inr (12, [.ref nw, .ref nk, .int mhasKept, .ref nt, .int mtaped, .ref nr, .int mrowMany, .int mroundOf, .int mroundFrom, .int mouts, .ref nm, .int mfromHour, .int mtoHour, .ref ns, .int mfrom, .int mto, .int msort, .int misFault, .int mdeep, .int mcoded, .int mlines, .ref nl, .ref nc, .ref nF, .ref np, .ref ntr, .ref nb, .int mbestCost, .ref nso, .ref nsi, .ref nit, .ref nsh, .ref nsf, .ref nss, .ref nrc, .int (nI jr16044), .int (nI jd), .int mnumber, .int mwhose, .int msize, .int misParted])), (nrc, .inl (G.2.1, 30, .inl gtrc6045))] H := hP
  have hD : va_D A [(h0, .inr (12, [.ref nw, .ref nk, .int mhasKept, .ref nt, .int mtaped, .ref nr, .int mrowMany, .int mroundOf, .int mroundFrom, .int mouts, .ref nm, .int mfromHour, .int mtoHour, .ref ns, .int mfrom, .int mto, .int msort, .int misFault, .int mdeep, .int mcoded, .int mlines, .ref nl, .ref nc, .ref nF, .ref np, .ref ntr, .ref nb, .int mbestCost, .ref nso, .ref nsi, .ref nit, .ref nsh, .ref nsf, .ref nss, .ref nrc, .int (nI jr16044), .int (nI jd), .int mnumber, .int mwhose, .int msize, .int misParted])), (nrc, .inl (G.2.1, 30, .inl gtrc6045))] := hD
  have w6046 := hr6042
  refine lv_aload_n hx hb dX12_body_359 rfl (lv_at hl 0 rfl) ?_
  refine lv_iconst (v := 0) hx hb dX12_body_360 (by decide) ?_
  refine lv_iconst (v := 3) hx hb dX12_body_361 (by decide) ?_
  refine lv_iload_n hx hb dX12_body_362 rfl (lv_at hl 3 rfl) ?_
  refine iV (wr := []) hC hK hl hP hD hS hA (m_from03 l G h0 xx nw nk mhasKept nt mtaped nr mrowMany mroundOf mroundFrom mouts nm mfromHour mtoHour ns mfrom mto msort misFault mdeep mcoded mlines nl nc nF np ntr nb mbestCost nso nsi nit nsh nsf nss nrc jr16044 jd mnumber mwhose msize misParted gtrc6045 (by omega) (by omega)) si_X12_357 [0, 1] [] rfl rfl (by decide) rfl (by decide) (by decide) rfl rfl rfl rfl rfl (Nat.le_of_ble_eq_true rfl) ⟨Nat.le_of_ble_eq_true rfl, Nat.le_of_ble_eq_true rfl⟩ ⟨Nat.le_of_ble_eq_true rfl, Nat.le_of_ble_eq_true rfl⟩ dX12_body_363 (fun r6047 u6048 H locs hr6047 hP hD hS => ?_)
  obtain ⟨jr16049, ip16050, gtrc6051⟩ := u6048
  try dsimp only at hr6047
  have hP : va_P G.1 vwCl [(h0, .inr (12, [.ref nw, .ref nk, .int mhasKept, .ref nt, .int mtaped, .ref nr, .int mrowMany, .int mroundOf, .int mroundFrom, .int mouts, .ref nm, .int mfromHour, .int mtoHour, .ref ns, .int mfrom, .int mto, .int msort, .int misFault, .int mdeep, .int mcoded, .int mlines, .ref nl, .ref nc, .ref nF, .ref np, .ref ntr, .ref nb, .int mbestCost, .ref nso, .ref nsi, .ref nit, .ref nsh, .ref nsf, .ref nss, .ref nrc, .int (nI jr16049), .int (nI jd), .int mnumber, .int mwhose, .int msize, .int ip16050])), (nrc, .inl (G.2.1, 30, .inl gtrc6051))] H := hP
  have hD : va_D A [(h0, .inr (12, [.ref nw, .ref nk, .int mhasKept, .ref nt, .int mtaped, .ref nr, .int mrowMany, .int mroundOf, .int mroundFrom, .int mouts, .ref nm, .int mfromHour, .int mtoHour, .ref ns, .int mfrom, .int mto, .int msort, .int misFault, .int mdeep, .int mcoded, .int mlines, .ref nl, .ref nc, .ref nF, .ref np, .ref ntr, .ref nb, .int mbestCost, .ref nso, .ref nsi, .ref nit, .ref nsh, .ref nsf, .ref nss, .ref nrc, .int (nI jr16049), .int (nI jd), .int mnumber, .int mwhose, .int msize, .int ip16050])), (nrc, .inl (G.2.1, 30, .inl gtrc6051))] := hD
  obtain ⟨hr6047, w6052⟩ := hr6047
  refine lv_istore (lv' := [(5, .int r6047), (0, .ref h0), (1, .int 6), (2, .int 3), (3, .int xx)]) hx hb dX12_body_366 hl (by decide) rfl (fun ls hl => ?_)
  refine lv_aload_n hx hb dX12_body_368 rfl (lv_at hl 1 rfl) ?_
  refine gf_X12_380 hC rfl hK hP 0 rfl rfl dX12_body_369 ?_
  refine lv_if_eq (tgt := 379) hx hb dX12_body_372 (by decide) (fun c_372_6053 => ?_) (fun c_372_6053 => ?_)
  · refine lv_iload hx hb dX12_body_379 (lv_at hl 0 rfl) ?_
    refine lv_aload_n hx hb dX12_body_381 rfl (lv_at hl 1 rfl) ?_
    refine lv_iconst (v := 0) hx hb dX12_body_382 (by decide) ?_
    refine lv_aload_n hx hb dX12_body_383 rfl (lv_at hl 1 rfl) ?_
    refine gf_X12_378 hC rfl hK hP 0 rfl rfl dX12_body_384 ?_
    refine iV (wr := []) hC hK hl hP hD hS hA (m_dealt0 l G h0 mnumber nw nk mhasKept nt mtaped nr mrowMany mroundOf mroundFrom mouts nm mfromHour mtoHour ns mfrom mto msort misFault mdeep mcoded mlines nl nc nF np ntr nb mbestCost nso nsi nit nsh nsf nss nrc jr16049 jd mnumber mwhose msize ip16050 gtrc6051 (by omega) (by omega)) si_X12_372 [0, 1] [] rfl rfl (by decide) rfl (by decide) (by decide) rfl rfl rfl rfl rfl (Nat.le_of_ble_eq_true rfl) ⟨Nat.le_of_ble_eq_true rfl, Nat.le_of_ble_eq_true rfl⟩ ⟨Nat.le_of_ble_eq_true rfl, Nat.le_of_ble_eq_true rfl⟩ dX12_body_387 (fun r6054 u6055 H locs hr6054 hP hD hS => ?_)
    obtain ⟨jr16056, ip16057, gtrc6058⟩ := u6055
    try dsimp only at hr6054
    have hP : va_P G.1 vwCl [(h0, .inr (12, [.ref nw, .ref nk, .int mhasKept, .ref nt, .int mtaped, .ref nr, .int mrowMany, .int mroundOf, .int mroundFrom, .int mouts, .ref nm, .int mfromHour, .int mtoHour, .ref ns, .int mfrom, .int mto, .int msort, .int misFault, .int mdeep, .int mcoded, .int mlines, .ref nl, .ref nc, .ref nF, .ref np, .ref ntr, .ref nb, .int mbestCost, .ref nso, .ref nsi, .ref nit, .ref nsh, .ref nsf, .ref nss, .ref nrc, .int (nI jr16056), .int (nI jd), .int mnumber, .int mwhose, .int msize, .int ip16057])), (nrc, .inl (G.2.1, 30, .inl gtrc6058))] H := hP
    have hD : va_D A [(h0, .inr (12, [.ref nw, .ref nk, .int mhasKept, .ref nt, .int mtaped, .ref nr, .int mrowMany, .int mroundOf, .int mroundFrom, .int mouts, .ref nm, .int mfromHour, .int mtoHour, .ref ns, .int mfrom, .int mto, .int msort, .int misFault, .int mdeep, .int mcoded, .int mlines, .ref nl, .ref nc, .ref nF, .ref np, .ref ntr, .ref nb, .int mbestCost, .ref nso, .ref nsi, .ref nit, .ref nsh, .ref nsf, .ref nss, .ref nrc, .int (nI jr16056), .int (nI jd), .int mnumber, .int mwhose, .int msize, .int ip16057])), (nrc, .inl (G.2.1, 30, .inl gtrc6058))] := hD
    obtain ⟨hr6054, w6059⟩ := hr6054
    refine lv_isub hx hb dX12_body_390 ?_
    exact RI (v := r6047 - r6054) hC hP hD hS [0, 1] (jr16056, ip16057, gtrc6058) rfl rfl (by decide) (⟨trivial, by omega⟩) rfl dX12_body_391
  · refine lv_iconst (v := 0) hx hb dX12_body_375 (by decide) ?_
    refine lv_goto (tgt := 391) hx hb dX12_body_376 (by decide) ?_
    exact RI (v := 0) hC hP hD hS [0, 1] (jr16049, ip16050, gtrc6051) rfl rfl (by decide) (⟨trivial, by omega⟩) rfl dX12_body_391
set_option maxHeartbeats 4000000 in
set_option maxRecDepth 100000 in
theorem m_from63 (l : Launch) (G : GG) (h0 : Nat) (xx : Int32) (nw : Nat) (nk : Nat) (mhasKept : Int32) (nt : Nat) (mtaped : Int32) (nr : Nat) (mrowMany : Int32) (mroundOf : Int32) (mroundFrom : Int32) (mouts : Int32) (nm : Nat) (mfromHour : Int32) (mtoHour : Int32) (ns : Nat) (mfrom : Int32) (mto : Int32) (msort : Int32) (misFault : Int32) (mdeep : Int32) (mcoded : Int32) (mlines : Int32) (nl : Nat) (nc : Nat) (nF : Nat) (np : Nat) (ntr : Nat) (nb : Nat) (mbestCost : Int32) (nso : Nat) (nsi : Nat) (nit : Nat) (nsh : Nat) (nsf : Nat) (nss : Nat) (nrc : Nat) (jr : Nat) (jd : Nat) (mnumber : Int32) (mwhose : Int32) (msize : Int32) (misParted : Int32) (fnrc : Nat → Int32) (hjr : jr ≤ 30) (hjd : jd < 7) : MI l G yX12_bodyFrom cX12_bodyFrom 5 (some .int) 46 0 0 [.ref h0, .int 6, .int 3, .int xx] [(h0, .inr (12, [.ref nw, .ref nk, .int mhasKept, .ref nt, .int mtaped, .ref nr, .int mrowMany, .int mroundOf, .int mroundFrom, .int mouts, .ref nm, .int mfromHour, .int mtoHour, .ref ns, .int mfrom, .int mto, .int msort, .int misFault, .int mdeep, .int mcoded, .int mlines, .ref nl, .ref nc, .ref nF, .ref np, .ref ntr, .ref nb, .int mbestCost, .ref nso, .ref nsi, .ref nit, .ref nsh, .ref nsf, .ref nss, .ref nrc, .int (nI jr), .int (nI jd), .int mnumber, .int mwhose, .int msize, .int misParted])), (nrc, .inl (G.2.1, 30, .inl fnrc))] (fun (r : Int32) (u : Nat × Int32 × (Nat → Int32)) => (True) ∧ (u.1 ≤ 30)) (fun u : Nat × Int32 × (Nat → Int32) => [(h0, .inr (12, [.ref nw, .ref nk, .int mhasKept, .ref nt, .int mtaped, .ref nr, .int mrowMany, .int mroundOf, .int mroundFrom, .int mouts, .ref nm, .int mfromHour, .int mtoHour, .ref ns, .int mfrom, .int mto, .int msort, .int misFault, .int mdeep, .int mcoded, .int mlines, .ref nl, .ref nc, .ref nF, .ref np, .ref ntr, .ref nb, .int mbestCost, .ref nso, .ref nsi, .ref nit, .ref nsh, .ref nsf, .ref nss, .ref nrc, .int (nI u.1), .int (nI jd), .int mnumber, .int mwhose, .int msize, .int u.2.1])), (nrc, .inl (G.2.1, 30, .inl u.2.2))]) := by
  refine MI.start (by decide +kernel) (Nat.le_of_ble_eq_true rfl) ?_
  intro p e s m below meth c A ls hC hK hP hD hS hA hl
  have hl : lv_has ls 5 [(0, .ref h0), (1, .int 6), (2, .int 3), (3, .int xx)] := hl
  obtain ⟨hx, hb, hr, hml, hB, hown, hlocks, hnm⟩ := id hC
  refine lv_iload_n hx hb dX12_bodyFrom_0 rfl (lv_at hl 1 rfl) ?_
  refine lv_istore (lv' := [(4, .int 6), (0, .ref h0), (1, .int 6), (2, .int 3), (3, .int xx)]) hx hb dX12_bodyFrom_1 hl (by decide) rfl (fun ls hl => ?_)
  refine lv_iload hx hb dX12_bodyFrom_3 (lv_at hl 0 rfl) ?_
  refine lv_iload_n hx hb dX12_bodyFrom_5 rfl (lv_at hl 3 rfl) ?_
  refine pS hC hK hl (m_hasOwn63 l G) si_X12_360 rfl rfl (Nat.le_of_ble_eq_true rfl) ⟨Nat.le_of_ble_eq_true rfl, Nat.le_of_ble_eq_true rfl⟩ ⟨by first | exact Nat.le_of_ble_eq_true rfl | exact Nat.zero_le _, by first | exact Nat.le_of_ble_eq_true rfl | exact Nat.zero_le _⟩ dX12_bodyFrom_6 (fun r6060 hr6060 => ?_)
  obtain rfl := hr6060
  refine lv_if_ne (tgt := 22) hx hb dX12_bodyFrom_9 (by decide) (fun _ => ?_) (fun c9 => absurd c9 (by decide))
  refine lv_aload_n hx hb dX12_bodyFrom_22 rfl (lv_at hl 1 rfl) ?_
  refine lv_iload hx hb dX12_bodyFrom_23 (lv_at hl 0 rfl) ?_
  refine lv_iload_n hx hb dX12_bodyFrom_25 rfl (lv_at hl 3 rfl) ?_
  refine lv_iload_n hx hb dX12_bodyFrom_26 rfl (lv_at hl 4 rfl) ?_
  refine iV (wr := []) hC hK hl hP hD hS hA (m_body63 l G h0 xx nw nk mhasKept nt mtaped nr mrowMany mroundOf mroundFrom mouts nm mfromHour mtoHour ns mfrom mto msort misFault mdeep mcoded mlines nl nc nF np ntr nb mbestCost nso nsi nit nsh nsf nss nrc jr jd mnumber mwhose msize misParted fnrc (by omega) (by omega)) si_X12_363 [0, 1] [] rfl rfl (by decide) rfl (by decide) (by decide) rfl rfl rfl rfl rfl (Nat.le_of_ble_eq_true rfl) ⟨Nat.le_of_ble_eq_true rfl, Nat.le_of_ble_eq_true rfl⟩ ⟨Nat.le_of_ble_eq_true rfl, Nat.le_of_ble_eq_true rfl⟩ dX12_bodyFrom_27 (fun r6062 u6063 H locs hr6062 hP hD hS => ?_)
  obtain ⟨jr16064, ip16065, gtrc6066⟩ := u6063
  try dsimp only at hr6062
  have hP : va_P G.1 vwCl [(h0, .inr (12, [.ref nw, .ref nk, .int mhasKept, .ref nt, .int mtaped, .ref nr, .int mrowMany, .int mroundOf, .int mroundFrom, .int mouts, .ref nm, .int mfromHour, .int mtoHour, .ref ns, .int mfrom, .int mto, .int msort, .int misFault, .int mdeep, .int mcoded, .int mlines, .ref nl, .ref nc, .ref nF, .ref np, .ref ntr, .ref nb, .int mbestCost, .ref nso, .ref nsi, .ref nit, .ref nsh, .ref nsf, .ref nss, .ref nrc, .int (nI jr16064), .int (nI jd), .int mnumber, .int mwhose, .int msize, .int ip16065])), (nrc, .inl (G.2.1, 30, .inl gtrc6066))] H := hP
  have hD : va_D A [(h0, .inr (12, [.ref nw, .ref nk, .int mhasKept, .ref nt, .int mtaped, .ref nr, .int mrowMany, .int mroundOf, .int mroundFrom, .int mouts, .ref nm, .int mfromHour, .int mtoHour, .ref ns, .int mfrom, .int mto, .int msort, .int misFault, .int mdeep, .int mcoded, .int mlines, .ref nl, .ref nc, .ref nF, .ref np, .ref ntr, .ref nb, .int mbestCost, .ref nso, .ref nsi, .ref nit, .ref nsh, .ref nsf, .ref nss, .ref nrc, .int (nI jr16064), .int (nI jd), .int mnumber, .int mwhose, .int msize, .int ip16065])), (nrc, .inl (G.2.1, 30, .inl gtrc6066))] := hD
  obtain ⟨hr6062, w6067⟩ := hr6062
  exact RI (v := r6062) hC hP hD hS [0, 1] (jr16064, ip16065, gtrc6066) rfl rfl (by decide) (⟨trivial, by omega⟩) rfl dX12_bodyFrom_30
set_option maxHeartbeats 4000000 in
set_option maxRecDepth 100000 in
theorem m_from23 (l : Launch) (G : GG) (h0 : Nat) (xx : Int32) (nw : Nat) (nk : Nat) (mhasKept : Int32) (nt : Nat) (mtaped : Int32) (nr : Nat) (mrowMany : Int32) (mroundOf : Int32) (mroundFrom : Int32) (mouts : Int32) (nm : Nat) (mfromHour : Int32) (mtoHour : Int32) (ns : Nat) (mfrom : Int32) (mto : Int32) (msort : Int32) (misFault : Int32) (mdeep : Int32) (mcoded : Int32) (mlines : Int32) (nl : Nat) (nc : Nat) (nF : Nat) (np : Nat) (ntr : Nat) (nb : Nat) (mbestCost : Int32) (nso : Nat) (nsi : Nat) (nit : Nat) (nsh : Nat) (nsf : Nat) (nss : Nat) (nrc : Nat) (jr : Nat) (jd : Nat) (mnumber : Int32) (mwhose : Int32) (msize : Int32) (misParted : Int32) (fnrc : Nat → Int32) (hjr : jr ≤ 30) (hjd : jd < 7) : MI l G yX12_bodyFrom cX12_bodyFrom 5 (some .int) 48 0 0 [.ref h0, .int 2, .int 3, .int xx] [(h0, .inr (12, [.ref nw, .ref nk, .int mhasKept, .ref nt, .int mtaped, .ref nr, .int mrowMany, .int mroundOf, .int mroundFrom, .int mouts, .ref nm, .int mfromHour, .int mtoHour, .ref ns, .int mfrom, .int mto, .int msort, .int misFault, .int mdeep, .int mcoded, .int mlines, .ref nl, .ref nc, .ref nF, .ref np, .ref ntr, .ref nb, .int mbestCost, .ref nso, .ref nsi, .ref nit, .ref nsh, .ref nsf, .ref nss, .ref nrc, .int (nI jr), .int (nI jd), .int mnumber, .int mwhose, .int msize, .int misParted])), (nrc, .inl (G.2.1, 30, .inl fnrc))] (fun (r : Int32) (u : Nat × Int32 × (Nat → Int32)) => (True) ∧ (u.1 ≤ 30)) (fun u : Nat × Int32 × (Nat → Int32) => [(h0, .inr (12, [.ref nw, .ref nk, .int mhasKept, .ref nt, .int mtaped, .ref nr, .int mrowMany, .int mroundOf, .int mroundFrom, .int mouts, .ref nm, .int mfromHour, .int mtoHour, .ref ns, .int mfrom, .int mto, .int msort, .int misFault, .int mdeep, .int mcoded, .int mlines, .ref nl, .ref nc, .ref nF, .ref np, .ref ntr, .ref nb, .int mbestCost, .ref nso, .ref nsi, .ref nit, .ref nsh, .ref nsf, .ref nss, .ref nrc, .int (nI u.1), .int (nI jd), .int mnumber, .int mwhose, .int msize, .int u.2.1])), (nrc, .inl (G.2.1, 30, .inl u.2.2))]) := by
  refine MI.start (by decide +kernel) (Nat.le_of_ble_eq_true rfl) ?_
  intro p e s m below meth c A ls hC hK hP hD hS hA hl
  have hl : lv_has ls 5 [(0, .ref h0), (1, .int 2), (2, .int 3), (3, .int xx)] := hl
  obtain ⟨hx, hb, hr, hml, hB, hown, hlocks, hnm⟩ := id hC
  refine lv_iload_n hx hb dX12_bodyFrom_0 rfl (lv_at hl 1 rfl) ?_
  refine lv_istore (lv' := [(4, .int 2), (0, .ref h0), (1, .int 2), (2, .int 3), (3, .int xx)]) hx hb dX12_bodyFrom_1 hl (by decide) rfl (fun ls hl => ?_)
  refine lv_iload hx hb dX12_bodyFrom_3 (lv_at hl 0 rfl) ?_
  refine lv_iload_n hx hb dX12_bodyFrom_5 rfl (lv_at hl 3 rfl) ?_
  refine pS hC hK hl (m_hasOwn23 l G) si_X12_360 rfl rfl (Nat.le_of_ble_eq_true rfl) ⟨Nat.le_of_ble_eq_true rfl, Nat.le_of_ble_eq_true rfl⟩ ⟨by first | exact Nat.le_of_ble_eq_true rfl | exact Nat.zero_le _, by first | exact Nat.le_of_ble_eq_true rfl | exact Nat.zero_le _⟩ dX12_bodyFrom_6 (fun r6068 hr6068 => ?_)
  obtain rfl := hr6068
  refine lv_if_ne (tgt := 22) hx hb dX12_bodyFrom_9 (by decide) (fun c9 => absurd (by decide) c9) (fun _ => ?_)
  refine lv_iload hx hb dX12_bodyFrom_12 (lv_at hl 0 rfl) ?_
  refine pS hC hK hl (m_above2 l G) si_X12_348 rfl rfl (Nat.le_of_ble_eq_true rfl) ⟨Nat.le_of_ble_eq_true rfl, Nat.le_of_ble_eq_true rfl⟩ ⟨by first | exact Nat.le_of_ble_eq_true rfl | exact Nat.zero_le _, by first | exact Nat.le_of_ble_eq_true rfl | exact Nat.zero_le _⟩ dX12_bodyFrom_14 (fun r6070 hr6070 => ?_)
  obtain rfl := hr6070
  refine lv_istore (lv' := [(4, .int 0), (0, .ref h0), (1, .int 2), (2, .int 3), (3, .int xx)]) hx hb dX12_bodyFrom_17 hl (by decide) rfl (fun ls hl => ?_)
  refine lv_goto (tgt := 3) hx hb dX12_bodyFrom_19 (by decide) ?_
  refine lv_iload hx hb dX12_bodyFrom_3 (lv_at hl 0 rfl) ?_
  refine lv_iload_n hx hb dX12_bodyFrom_5 rfl (lv_at hl 3 rfl) ?_
  refine pS hC hK hl (m_hasOwn03 l G) si_X12_360 rfl rfl (Nat.le_of_ble_eq_true rfl) ⟨Nat.le_of_ble_eq_true rfl, Nat.le_of_ble_eq_true rfl⟩ ⟨by first | exact Nat.le_of_ble_eq_true rfl | exact Nat.zero_le _, by first | exact Nat.le_of_ble_eq_true rfl | exact Nat.zero_le _⟩ dX12_bodyFrom_6 (fun r6072 hr6072 => ?_)
  obtain rfl := hr6072
  refine lv_if_ne (tgt := 22) hx hb dX12_bodyFrom_9 (by decide) (fun _ => ?_) (fun c9 => absurd c9 (by decide))
  refine lv_aload_n hx hb dX12_bodyFrom_22 rfl (lv_at hl 1 rfl) ?_
  refine lv_iload hx hb dX12_bodyFrom_23 (lv_at hl 0 rfl) ?_
  refine lv_iload_n hx hb dX12_bodyFrom_25 rfl (lv_at hl 3 rfl) ?_
  refine lv_iload_n hx hb dX12_bodyFrom_26 rfl (lv_at hl 4 rfl) ?_
  refine iV (wr := []) hC hK hl hP hD hS hA (m_body03 l G h0 xx nw nk mhasKept nt mtaped nr mrowMany mroundOf mroundFrom mouts nm mfromHour mtoHour ns mfrom mto msort misFault mdeep mcoded mlines nl nc nF np ntr nb mbestCost nso nsi nit nsh nsf nss nrc jr jd mnumber mwhose msize misParted fnrc (by omega) (by omega)) si_X12_363 [0, 1] [] rfl rfl (by decide) rfl (by decide) (by decide) rfl rfl rfl rfl rfl (Nat.le_of_ble_eq_true rfl) ⟨Nat.le_of_ble_eq_true rfl, Nat.le_of_ble_eq_true rfl⟩ ⟨Nat.le_of_ble_eq_true rfl, Nat.le_of_ble_eq_true rfl⟩ dX12_bodyFrom_27 (fun r6074 u6075 H locs hr6074 hP hD hS => ?_)
  obtain ⟨jr16076, ip16077, gtrc6078⟩ := u6075
  try dsimp only at hr6074
  have hP : va_P G.1 vwCl [(h0, .inr (12, [.ref nw, .ref nk, .int mhasKept, .ref nt, .int mtaped, .ref nr, .int mrowMany, .int mroundOf, .int mroundFrom, .int mouts, .ref nm, .int mfromHour, .int mtoHour, .ref ns, .int mfrom, .int mto, .int msort, .int misFault, .int mdeep, .int mcoded, .int mlines, .ref nl, .ref nc, .ref nF, .ref np, .ref ntr, .ref nb, .int mbestCost, .ref nso, .ref nsi, .ref nit, .ref nsh, .ref nsf, .ref nss, .ref nrc, .int (nI jr16076), .int (nI jd), .int mnumber, .int mwhose, .int msize, .int ip16077])), (nrc, .inl (G.2.1, 30, .inl gtrc6078))] H := hP
  have hD : va_D A [(h0, .inr (12, [.ref nw, .ref nk, .int mhasKept, .ref nt, .int mtaped, .ref nr, .int mrowMany, .int mroundOf, .int mroundFrom, .int mouts, .ref nm, .int mfromHour, .int mtoHour, .ref ns, .int mfrom, .int mto, .int msort, .int misFault, .int mdeep, .int mcoded, .int mlines, .ref nl, .ref nc, .ref nF, .ref np, .ref ntr, .ref nb, .int mbestCost, .ref nso, .ref nsi, .ref nit, .ref nsh, .ref nsf, .ref nss, .ref nrc, .int (nI jr16076), .int (nI jd), .int mnumber, .int mwhose, .int msize, .int ip16077])), (nrc, .inl (G.2.1, 30, .inl gtrc6078))] := hD
  obtain ⟨hr6074, w6079⟩ := hr6074
  exact RI (v := r6074) hC hP hD hS [0, 1] (jr16076, ip16077, gtrc6078) rfl rfl (by decide) (⟨trivial, by omega⟩) rfl dX12_bodyFrom_30
set_option maxHeartbeats 4000000 in
set_option maxRecDepth 100000 in
theorem m_from43 (l : Launch) (G : GG) (h0 : Nat) (xx : Int32) (nw : Nat) (nk : Nat) (mhasKept : Int32) (nt : Nat) (mtaped : Int32) (nr : Nat) (mrowMany : Int32) (mroundOf : Int32) (mroundFrom : Int32) (mouts : Int32) (nm : Nat) (mfromHour : Int32) (mtoHour : Int32) (ns : Nat) (mfrom : Int32) (mto : Int32) (msort : Int32) (misFault : Int32) (mdeep : Int32) (mcoded : Int32) (mlines : Int32) (nl : Nat) (nc : Nat) (nF : Nat) (np : Nat) (ntr : Nat) (nb : Nat) (mbestCost : Int32) (nso : Nat) (nsi : Nat) (nit : Nat) (nsh : Nat) (nsf : Nat) (nss : Nat) (nrc : Nat) (jr : Nat) (jd : Nat) (mnumber : Int32) (mwhose : Int32) (msize : Int32) (misParted : Int32) (fnrc : Nat → Int32) (hjr : jr ≤ 30) (hjd : jd < 7) : MI l G yX12_bodyFrom cX12_bodyFrom 5 (some .int) 48 0 0 [.ref h0, .int 4, .int 3, .int xx] [(h0, .inr (12, [.ref nw, .ref nk, .int mhasKept, .ref nt, .int mtaped, .ref nr, .int mrowMany, .int mroundOf, .int mroundFrom, .int mouts, .ref nm, .int mfromHour, .int mtoHour, .ref ns, .int mfrom, .int mto, .int msort, .int misFault, .int mdeep, .int mcoded, .int mlines, .ref nl, .ref nc, .ref nF, .ref np, .ref ntr, .ref nb, .int mbestCost, .ref nso, .ref nsi, .ref nit, .ref nsh, .ref nsf, .ref nss, .ref nrc, .int (nI jr), .int (nI jd), .int mnumber, .int mwhose, .int msize, .int misParted])), (nrc, .inl (G.2.1, 30, .inl fnrc))] (fun (r : Int32) (u : Nat × Int32 × (Nat → Int32)) => (True) ∧ (u.1 ≤ 30)) (fun u : Nat × Int32 × (Nat → Int32) => [(h0, .inr (12, [.ref nw, .ref nk, .int mhasKept, .ref nt, .int mtaped, .ref nr, .int mrowMany, .int mroundOf, .int mroundFrom, .int mouts, .ref nm, .int mfromHour, .int mtoHour, .ref ns, .int mfrom, .int mto, .int msort, .int misFault, .int mdeep, .int mcoded, .int mlines, .ref nl, .ref nc, .ref nF, .ref np, .ref ntr, .ref nb, .int mbestCost, .ref nso, .ref nsi, .ref nit, .ref nsh, .ref nsf, .ref nss, .ref nrc, .int (nI u.1), .int (nI jd), .int mnumber, .int mwhose, .int msize, .int u.2.1])), (nrc, .inl (G.2.1, 30, .inl u.2.2))]) := by
  refine MI.start (by decide +kernel) (Nat.le_of_ble_eq_true rfl) ?_
  intro p e s m below meth c A ls hC hK hP hD hS hA hl
  have hl : lv_has ls 5 [(0, .ref h0), (1, .int 4), (2, .int 3), (3, .int xx)] := hl
  obtain ⟨hx, hb, hr, hml, hB, hown, hlocks, hnm⟩ := id hC
  refine lv_iload_n hx hb dX12_bodyFrom_0 rfl (lv_at hl 1 rfl) ?_
  refine lv_istore (lv' := [(4, .int 4), (0, .ref h0), (1, .int 4), (2, .int 3), (3, .int xx)]) hx hb dX12_bodyFrom_1 hl (by decide) rfl (fun ls hl => ?_)
  refine lv_iload hx hb dX12_bodyFrom_3 (lv_at hl 0 rfl) ?_
  refine lv_iload_n hx hb dX12_bodyFrom_5 rfl (lv_at hl 3 rfl) ?_
  refine pS hC hK hl (m_hasOwn43 l G) si_X12_360 rfl rfl (Nat.le_of_ble_eq_true rfl) ⟨Nat.le_of_ble_eq_true rfl, Nat.le_of_ble_eq_true rfl⟩ ⟨by first | exact Nat.le_of_ble_eq_true rfl | exact Nat.zero_le _, by first | exact Nat.le_of_ble_eq_true rfl | exact Nat.zero_le _⟩ dX12_bodyFrom_6 (fun r6080 hr6080 => ?_)
  obtain rfl := hr6080
  refine lv_if_ne (tgt := 22) hx hb dX12_bodyFrom_9 (by decide) (fun c9 => absurd (by decide) c9) (fun _ => ?_)
  refine lv_iload hx hb dX12_bodyFrom_12 (lv_at hl 0 rfl) ?_
  refine pS hC hK hl (m_above4 l G) si_X12_348 rfl rfl (Nat.le_of_ble_eq_true rfl) ⟨Nat.le_of_ble_eq_true rfl, Nat.le_of_ble_eq_true rfl⟩ ⟨by first | exact Nat.le_of_ble_eq_true rfl | exact Nat.zero_le _, by first | exact Nat.le_of_ble_eq_true rfl | exact Nat.zero_le _⟩ dX12_bodyFrom_14 (fun r6082 hr6082 => ?_)
  obtain rfl := hr6082
  refine lv_istore (lv' := [(4, .int 0), (0, .ref h0), (1, .int 4), (2, .int 3), (3, .int xx)]) hx hb dX12_bodyFrom_17 hl (by decide) rfl (fun ls hl => ?_)
  refine lv_goto (tgt := 3) hx hb dX12_bodyFrom_19 (by decide) ?_
  refine lv_iload hx hb dX12_bodyFrom_3 (lv_at hl 0 rfl) ?_
  refine lv_iload_n hx hb dX12_bodyFrom_5 rfl (lv_at hl 3 rfl) ?_
  refine pS hC hK hl (m_hasOwn03 l G) si_X12_360 rfl rfl (Nat.le_of_ble_eq_true rfl) ⟨Nat.le_of_ble_eq_true rfl, Nat.le_of_ble_eq_true rfl⟩ ⟨by first | exact Nat.le_of_ble_eq_true rfl | exact Nat.zero_le _, by first | exact Nat.le_of_ble_eq_true rfl | exact Nat.zero_le _⟩ dX12_bodyFrom_6 (fun r6084 hr6084 => ?_)
  obtain rfl := hr6084
  refine lv_if_ne (tgt := 22) hx hb dX12_bodyFrom_9 (by decide) (fun _ => ?_) (fun c9 => absurd c9 (by decide))
  refine lv_aload_n hx hb dX12_bodyFrom_22 rfl (lv_at hl 1 rfl) ?_
  refine lv_iload hx hb dX12_bodyFrom_23 (lv_at hl 0 rfl) ?_
  refine lv_iload_n hx hb dX12_bodyFrom_25 rfl (lv_at hl 3 rfl) ?_
  refine lv_iload_n hx hb dX12_bodyFrom_26 rfl (lv_at hl 4 rfl) ?_
  refine iV (wr := []) hC hK hl hP hD hS hA (m_body03 l G h0 xx nw nk mhasKept nt mtaped nr mrowMany mroundOf mroundFrom mouts nm mfromHour mtoHour ns mfrom mto msort misFault mdeep mcoded mlines nl nc nF np ntr nb mbestCost nso nsi nit nsh nsf nss nrc jr jd mnumber mwhose msize misParted fnrc (by omega) (by omega)) si_X12_363 [0, 1] [] rfl rfl (by decide) rfl (by decide) (by decide) rfl rfl rfl rfl rfl (Nat.le_of_ble_eq_true rfl) ⟨Nat.le_of_ble_eq_true rfl, Nat.le_of_ble_eq_true rfl⟩ ⟨Nat.le_of_ble_eq_true rfl, Nat.le_of_ble_eq_true rfl⟩ dX12_bodyFrom_27 (fun r6086 u6087 H locs hr6086 hP hD hS => ?_)
  obtain ⟨jr16088, ip16089, gtrc6090⟩ := u6087
  try dsimp only at hr6086
  have hP : va_P G.1 vwCl [(h0, .inr (12, [.ref nw, .ref nk, .int mhasKept, .ref nt, .int mtaped, .ref nr, .int mrowMany, .int mroundOf, .int mroundFrom, .int mouts, .ref nm, .int mfromHour, .int mtoHour, .ref ns, .int mfrom, .int mto, .int msort, .int misFault, .int mdeep, .int mcoded, .int mlines, .ref nl, .ref nc, .ref nF, .ref np, .ref ntr, .ref nb, .int mbestCost, .ref nso, .ref nsi, .ref nit, .ref nsh, .ref nsf, .ref nss, .ref nrc, .int (nI jr16088), .int (nI jd), .int mnumber, .int mwhose, .int msize, .int ip16089])), (nrc, .inl (G.2.1, 30, .inl gtrc6090))] H := hP
  have hD : va_D A [(h0, .inr (12, [.ref nw, .ref nk, .int mhasKept, .ref nt, .int mtaped, .ref nr, .int mrowMany, .int mroundOf, .int mroundFrom, .int mouts, .ref nm, .int mfromHour, .int mtoHour, .ref ns, .int mfrom, .int mto, .int msort, .int misFault, .int mdeep, .int mcoded, .int mlines, .ref nl, .ref nc, .ref nF, .ref np, .ref ntr, .ref nb, .int mbestCost, .ref nso, .ref nsi, .ref nit, .ref nsh, .ref nsf, .ref nss, .ref nrc, .int (nI jr16088), .int (nI jd), .int mnumber, .int mwhose, .int msize, .int ip16089])), (nrc, .inl (G.2.1, 30, .inl gtrc6090))] := hD
  obtain ⟨hr6086, w6091⟩ := hr6086
  exact RI (v := r6086) hC hP hD hS [0, 1] (jr16088, ip16089, gtrc6090) rfl rfl (by decide) (⟨trivial, by omega⟩) rfl dX12_bodyFrom_30
set_option maxHeartbeats 4000000 in
set_option maxRecDepth 100000 in
theorem m_from53 (l : Launch) (G : GG) (h0 : Nat) (xx : Int32) (nw : Nat) (nk : Nat) (mhasKept : Int32) (nt : Nat) (mtaped : Int32) (nr : Nat) (mrowMany : Int32) (mroundOf : Int32) (mroundFrom : Int32) (mouts : Int32) (nm : Nat) (mfromHour : Int32) (mtoHour : Int32) (ns : Nat) (mfrom : Int32) (mto : Int32) (msort : Int32) (misFault : Int32) (mdeep : Int32) (mcoded : Int32) (mlines : Int32) (nl : Nat) (nc : Nat) (nF : Nat) (np : Nat) (ntr : Nat) (nb : Nat) (mbestCost : Int32) (nso : Nat) (nsi : Nat) (nit : Nat) (nsh : Nat) (nsf : Nat) (nss : Nat) (nrc : Nat) (jr : Nat) (jd : Nat) (mnumber : Int32) (mwhose : Int32) (msize : Int32) (misParted : Int32) (fnrc : Nat → Int32) (hjr : jr ≤ 30) (hjd : jd < 7) : MI l G yX12_bodyFrom cX12_bodyFrom 5 (some .int) 48 0 0 [.ref h0, .int 5, .int 3, .int xx] [(h0, .inr (12, [.ref nw, .ref nk, .int mhasKept, .ref nt, .int mtaped, .ref nr, .int mrowMany, .int mroundOf, .int mroundFrom, .int mouts, .ref nm, .int mfromHour, .int mtoHour, .ref ns, .int mfrom, .int mto, .int msort, .int misFault, .int mdeep, .int mcoded, .int mlines, .ref nl, .ref nc, .ref nF, .ref np, .ref ntr, .ref nb, .int mbestCost, .ref nso, .ref nsi, .ref nit, .ref nsh, .ref nsf, .ref nss, .ref nrc, .int (nI jr), .int (nI jd), .int mnumber, .int mwhose, .int msize, .int misParted])), (nrc, .inl (G.2.1, 30, .inl fnrc))] (fun (r : Int32) (u : Nat × Int32 × (Nat → Int32)) => (True) ∧ (u.1 ≤ 30)) (fun u : Nat × Int32 × (Nat → Int32) => [(h0, .inr (12, [.ref nw, .ref nk, .int mhasKept, .ref nt, .int mtaped, .ref nr, .int mrowMany, .int mroundOf, .int mroundFrom, .int mouts, .ref nm, .int mfromHour, .int mtoHour, .ref ns, .int mfrom, .int mto, .int msort, .int misFault, .int mdeep, .int mcoded, .int mlines, .ref nl, .ref nc, .ref nF, .ref np, .ref ntr, .ref nb, .int mbestCost, .ref nso, .ref nsi, .ref nit, .ref nsh, .ref nsf, .ref nss, .ref nrc, .int (nI u.1), .int (nI jd), .int mnumber, .int mwhose, .int msize, .int u.2.1])), (nrc, .inl (G.2.1, 30, .inl u.2.2))]) := by
  refine MI.start (by decide +kernel) (Nat.le_of_ble_eq_true rfl) ?_
  intro p e s m below meth c A ls hC hK hP hD hS hA hl
  have hl : lv_has ls 5 [(0, .ref h0), (1, .int 5), (2, .int 3), (3, .int xx)] := hl
  obtain ⟨hx, hb, hr, hml, hB, hown, hlocks, hnm⟩ := id hC
  refine lv_iload_n hx hb dX12_bodyFrom_0 rfl (lv_at hl 1 rfl) ?_
  refine lv_istore (lv' := [(4, .int 5), (0, .ref h0), (1, .int 5), (2, .int 3), (3, .int xx)]) hx hb dX12_bodyFrom_1 hl (by decide) rfl (fun ls hl => ?_)
  refine lv_iload hx hb dX12_bodyFrom_3 (lv_at hl 0 rfl) ?_
  refine lv_iload_n hx hb dX12_bodyFrom_5 rfl (lv_at hl 3 rfl) ?_
  refine pS hC hK hl (m_hasOwn53 l G) si_X12_360 rfl rfl (Nat.le_of_ble_eq_true rfl) ⟨Nat.le_of_ble_eq_true rfl, Nat.le_of_ble_eq_true rfl⟩ ⟨by first | exact Nat.le_of_ble_eq_true rfl | exact Nat.zero_le _, by first | exact Nat.le_of_ble_eq_true rfl | exact Nat.zero_le _⟩ dX12_bodyFrom_6 (fun r6092 hr6092 => ?_)
  obtain rfl := hr6092
  refine lv_if_ne (tgt := 22) hx hb dX12_bodyFrom_9 (by decide) (fun c9 => absurd (by decide) c9) (fun _ => ?_)
  refine lv_iload hx hb dX12_bodyFrom_12 (lv_at hl 0 rfl) ?_
  refine pS hC hK hl (m_above5 l G) si_X12_348 rfl rfl (Nat.le_of_ble_eq_true rfl) ⟨Nat.le_of_ble_eq_true rfl, Nat.le_of_ble_eq_true rfl⟩ ⟨by first | exact Nat.le_of_ble_eq_true rfl | exact Nat.zero_le _, by first | exact Nat.le_of_ble_eq_true rfl | exact Nat.zero_le _⟩ dX12_bodyFrom_14 (fun r6094 hr6094 => ?_)
  obtain rfl := hr6094
  refine lv_istore (lv' := [(4, .int 4), (0, .ref h0), (1, .int 5), (2, .int 3), (3, .int xx)]) hx hb dX12_bodyFrom_17 hl (by decide) rfl (fun ls hl => ?_)
  refine lv_goto (tgt := 3) hx hb dX12_bodyFrom_19 (by decide) ?_
  refine lv_iload hx hb dX12_bodyFrom_3 (lv_at hl 0 rfl) ?_
  refine lv_iload_n hx hb dX12_bodyFrom_5 rfl (lv_at hl 3 rfl) ?_
  refine pS hC hK hl (m_hasOwn43 l G) si_X12_360 rfl rfl (Nat.le_of_ble_eq_true rfl) ⟨Nat.le_of_ble_eq_true rfl, Nat.le_of_ble_eq_true rfl⟩ ⟨by first | exact Nat.le_of_ble_eq_true rfl | exact Nat.zero_le _, by first | exact Nat.le_of_ble_eq_true rfl | exact Nat.zero_le _⟩ dX12_bodyFrom_6 (fun r6096 hr6096 => ?_)
  obtain rfl := hr6096
  refine lv_if_ne (tgt := 22) hx hb dX12_bodyFrom_9 (by decide) (fun c9 => absurd (by decide) c9) (fun _ => ?_)
  refine lv_iload hx hb dX12_bodyFrom_12 (lv_at hl 0 rfl) ?_
  refine pS hC hK hl (m_above4 l G) si_X12_348 rfl rfl (Nat.le_of_ble_eq_true rfl) ⟨Nat.le_of_ble_eq_true rfl, Nat.le_of_ble_eq_true rfl⟩ ⟨by first | exact Nat.le_of_ble_eq_true rfl | exact Nat.zero_le _, by first | exact Nat.le_of_ble_eq_true rfl | exact Nat.zero_le _⟩ dX12_bodyFrom_14 (fun r6098 hr6098 => ?_)
  obtain rfl := hr6098
  refine lv_istore (lv' := [(4, .int 0), (0, .ref h0), (1, .int 5), (2, .int 3), (3, .int xx)]) hx hb dX12_bodyFrom_17 hl (by decide) rfl (fun ls hl => ?_)
  refine lv_goto (tgt := 3) hx hb dX12_bodyFrom_19 (by decide) ?_
  refine lv_iload hx hb dX12_bodyFrom_3 (lv_at hl 0 rfl) ?_
  refine lv_iload_n hx hb dX12_bodyFrom_5 rfl (lv_at hl 3 rfl) ?_
  refine pS hC hK hl (m_hasOwn03 l G) si_X12_360 rfl rfl (Nat.le_of_ble_eq_true rfl) ⟨Nat.le_of_ble_eq_true rfl, Nat.le_of_ble_eq_true rfl⟩ ⟨by first | exact Nat.le_of_ble_eq_true rfl | exact Nat.zero_le _, by first | exact Nat.le_of_ble_eq_true rfl | exact Nat.zero_le _⟩ dX12_bodyFrom_6 (fun r6100 hr6100 => ?_)
  obtain rfl := hr6100
  refine lv_if_ne (tgt := 22) hx hb dX12_bodyFrom_9 (by decide) (fun _ => ?_) (fun c9 => absurd c9 (by decide))
  refine lv_aload_n hx hb dX12_bodyFrom_22 rfl (lv_at hl 1 rfl) ?_
  refine lv_iload hx hb dX12_bodyFrom_23 (lv_at hl 0 rfl) ?_
  refine lv_iload_n hx hb dX12_bodyFrom_25 rfl (lv_at hl 3 rfl) ?_
  refine lv_iload_n hx hb dX12_bodyFrom_26 rfl (lv_at hl 4 rfl) ?_
  refine iV (wr := []) hC hK hl hP hD hS hA (m_body03 l G h0 xx nw nk mhasKept nt mtaped nr mrowMany mroundOf mroundFrom mouts nm mfromHour mtoHour ns mfrom mto msort misFault mdeep mcoded mlines nl nc nF np ntr nb mbestCost nso nsi nit nsh nsf nss nrc jr jd mnumber mwhose msize misParted fnrc (by omega) (by omega)) si_X12_363 [0, 1] [] rfl rfl (by decide) rfl (by decide) (by decide) rfl rfl rfl rfl rfl (Nat.le_of_ble_eq_true rfl) ⟨Nat.le_of_ble_eq_true rfl, Nat.le_of_ble_eq_true rfl⟩ ⟨Nat.le_of_ble_eq_true rfl, Nat.le_of_ble_eq_true rfl⟩ dX12_bodyFrom_27 (fun r6102 u6103 H locs hr6102 hP hD hS => ?_)
  obtain ⟨jr16104, ip16105, gtrc6106⟩ := u6103
  try dsimp only at hr6102
  have hP : va_P G.1 vwCl [(h0, .inr (12, [.ref nw, .ref nk, .int mhasKept, .ref nt, .int mtaped, .ref nr, .int mrowMany, .int mroundOf, .int mroundFrom, .int mouts, .ref nm, .int mfromHour, .int mtoHour, .ref ns, .int mfrom, .int mto, .int msort, .int misFault, .int mdeep, .int mcoded, .int mlines, .ref nl, .ref nc, .ref nF, .ref np, .ref ntr, .ref nb, .int mbestCost, .ref nso, .ref nsi, .ref nit, .ref nsh, .ref nsf, .ref nss, .ref nrc, .int (nI jr16104), .int (nI jd), .int mnumber, .int mwhose, .int msize, .int ip16105])), (nrc, .inl (G.2.1, 30, .inl gtrc6106))] H := hP
  have hD : va_D A [(h0, .inr (12, [.ref nw, .ref nk, .int mhasKept, .ref nt, .int mtaped, .ref nr, .int mrowMany, .int mroundOf, .int mroundFrom, .int mouts, .ref nm, .int mfromHour, .int mtoHour, .ref ns, .int mfrom, .int mto, .int msort, .int misFault, .int mdeep, .int mcoded, .int mlines, .ref nl, .ref nc, .ref nF, .ref np, .ref ntr, .ref nb, .int mbestCost, .ref nso, .ref nsi, .ref nit, .ref nsh, .ref nsf, .ref nss, .ref nrc, .int (nI jr16104), .int (nI jd), .int mnumber, .int mwhose, .int msize, .int ip16105])), (nrc, .inl (G.2.1, 30, .inl gtrc6106))] := hD
  obtain ⟨hr6102, w6107⟩ := hr6102
  exact RI (v := r6102) hC hP hD hS [0, 1] (jr16104, ip16105, gtrc6106) rfl rfl (by decide) (⟨trivial, by omega⟩) rfl dX12_bodyFrom_30
set_option maxHeartbeats 4000000 in
set_option maxRecDepth 100000 in
theorem m_dealt3 (l : Launch) (G : GG) (h0 : Nat) (xx : Int32) (nw : Nat) (nk : Nat) (mhasKept : Int32) (nt : Nat) (mtaped : Int32) (nr : Nat) (mrowMany : Int32) (mroundOf : Int32) (mroundFrom : Int32) (mouts : Int32) (nm : Nat) (mfromHour : Int32) (mtoHour : Int32) (ns : Nat) (mfrom : Int32) (mto : Int32) (msort : Int32) (misFault : Int32) (mdeep : Int32) (mcoded : Int32) (mlines : Int32) (nl : Nat) (nc : Nat) (nF : Nat) (np : Nat) (ntr : Nat) (nb : Nat) (mbestCost : Int32) (nso : Nat) (nsi : Nat) (nit : Nat) (nsh : Nat) (nsf : Nat) (nss : Nat) (nrc : Nat) (jr : Nat) (jd : Nat) (mnumber : Int32) (mwhose : Int32) (msize : Int32) (misParted : Int32) (fnrc : Nat → Int32) (hjr : jr ≤ 30) (hjd : jd < 7) : MI l G yX12_dealt cX12_dealt 3 (some .int) 50 0 0 [.ref h0, .int 3, .int xx] [(h0, .inr (12, [.ref nw, .ref nk, .int mhasKept, .ref nt, .int mtaped, .ref nr, .int mrowMany, .int mroundOf, .int mroundFrom, .int mouts, .ref nm, .int mfromHour, .int mtoHour, .ref ns, .int mfrom, .int mto, .int msort, .int misFault, .int mdeep, .int mcoded, .int mlines, .ref nl, .ref nc, .ref nF, .ref np, .ref ntr, .ref nb, .int mbestCost, .ref nso, .ref nsi, .ref nit, .ref nsh, .ref nsf, .ref nss, .ref nrc, .int (nI jr), .int (nI jd), .int mnumber, .int mwhose, .int msize, .int misParted])), (nrc, .inl (G.2.1, 30, .inl fnrc))] (fun (r : Int32) (u : Nat × Int32 × (Nat → Int32)) => (True) ∧ (u.1 ≤ 30)) (fun u : Nat × Int32 × (Nat → Int32) => [(h0, .inr (12, [.ref nw, .ref nk, .int mhasKept, .ref nt, .int mtaped, .ref nr, .int mrowMany, .int mroundOf, .int mroundFrom, .int mouts, .ref nm, .int mfromHour, .int mtoHour, .ref ns, .int mfrom, .int mto, .int msort, .int misFault, .int mdeep, .int mcoded, .int mlines, .ref nl, .ref nc, .ref nF, .ref np, .ref ntr, .ref nb, .int mbestCost, .ref nso, .ref nsi, .ref nit, .ref nsh, .ref nsf, .ref nss, .ref nrc, .int (nI u.1), .int (nI jd), .int mnumber, .int mwhose, .int msize, .int u.2.1])), (nrc, .inl (G.2.1, 30, .inl u.2.2))]) := by
  refine MI.start (by decide +kernel) (Nat.le_of_ble_eq_true rfl) ?_
  intro p e s m below meth c A ls hC hK hP hD hS hA hl
  have hl : lv_has ls 3 [(0, .ref h0), (1, .int 3), (2, .int xx)] := hl
  obtain ⟨hx, hb, hr, hml, hB, hown, hlocks, hnm⟩ := id hC
  refine lv_aload_n hx hb dX12_dealt_0 rfl (lv_at hl 0 rfl) ?_
  refine lv_aload_n hx hb dX12_dealt_1 rfl (lv_at hl 0 rfl) ?_
  refine gf_X12_354 hC rfl hK hP 0 rfl rfl dX12_dealt_2 ?_
  refine lv_iload_n hx hb dX12_dealt_5 rfl (lv_at hl 1 rfl) ?_
  refine lv_iload_n hx hb dX12_dealt_6 rfl (lv_at hl 2 rfl) ?_
  rcases (show jd = 0 ∨ jd = 1 ∨ jd = 2 ∨ jd = 3 ∨ jd = 4 ∨ jd = 5 ∨ jd = 6 by omega) with rfl | rfl | rfl | rfl | rfl | rfl | rfl
  · refine iV (wr := []) hC hK hl hP hD hS hA (m_from03 l G h0 xx nw nk mhasKept nt mtaped nr mrowMany mroundOf mroundFrom mouts nm mfromHour mtoHour ns mfrom mto msort misFault mdeep mcoded mlines nl nc nF np ntr nb mbestCost nso nsi nit nsh nsf nss nrc jr 0 mnumber mwhose msize misParted fnrc (by omega) (by omega)) si_X12_357 [0, 1] [] rfl rfl (by decide) rfl (by decide) (by decide) rfl rfl rfl rfl rfl (Nat.le_of_ble_eq_true rfl) ⟨Nat.le_of_ble_eq_true rfl, Nat.le_of_ble_eq_true rfl⟩ ⟨Nat.le_of_ble_eq_true rfl, Nat.le_of_ble_eq_true rfl⟩ dX12_dealt_7 (fun r6108 u6109 H locs hr6108 hP hD hS => ?_)
    obtain ⟨jr16110, ip16111, gtrc6112⟩ := u6109
    try dsimp only at hr6108
    have hP : va_P G.1 vwCl [(h0, .inr (12, [.ref nw, .ref nk, .int mhasKept, .ref nt, .int mtaped, .ref nr, .int mrowMany, .int mroundOf, .int mroundFrom, .int mouts, .ref nm, .int mfromHour, .int mtoHour, .ref ns, .int mfrom, .int mto, .int msort, .int misFault, .int mdeep, .int mcoded, .int mlines, .ref nl, .ref nc, .ref nF, .ref np, .ref ntr, .ref nb, .int mbestCost, .ref nso, .ref nsi, .ref nit, .ref nsh, .ref nsf, .ref nss, .ref nrc, .int (nI jr16110), .int 0, .int mnumber, .int mwhose, .int msize, .int ip16111])), (nrc, .inl (G.2.1, 30, .inl gtrc6112))] H := hP
    have hD : va_D A [(h0, .inr (12, [.ref nw, .ref nk, .int mhasKept, .ref nt, .int mtaped, .ref nr, .int mrowMany, .int mroundOf, .int mroundFrom, .int mouts, .ref nm, .int mfromHour, .int mtoHour, .ref ns, .int mfrom, .int mto, .int msort, .int misFault, .int mdeep, .int mcoded, .int mlines, .ref nl, .ref nc, .ref nF, .ref np, .ref ntr, .ref nb, .int mbestCost, .ref nso, .ref nsi, .ref nit, .ref nsh, .ref nsf, .ref nss, .ref nrc, .int (nI jr16110), .int 0, .int mnumber, .int mwhose, .int msize, .int ip16111])), (nrc, .inl (G.2.1, 30, .inl gtrc6112))] := hD
    obtain ⟨hr6108, w6113⟩ := hr6108
    exact RI (v := r6108) hC hP hD hS [0, 1] (jr16110, ip16111, gtrc6112) rfl rfl (by decide) (⟨trivial, by omega⟩) rfl dX12_dealt_10
  · refine iV (wr := []) hC hK hl hP hD hS hA (m_from13 l G h0 xx nw nk mhasKept nt mtaped nr mrowMany mroundOf mroundFrom mouts nm mfromHour mtoHour ns mfrom mto msort misFault mdeep mcoded mlines nl nc nF np ntr nb mbestCost nso nsi nit nsh nsf nss nrc jr 1 mnumber mwhose msize misParted fnrc (by omega) (by omega)) si_X12_357 [0, 1] [] rfl rfl (by decide) rfl (by decide) (by decide) rfl rfl rfl rfl rfl (Nat.le_of_ble_eq_true rfl) ⟨Nat.le_of_ble_eq_true rfl, Nat.le_of_ble_eq_true rfl⟩ ⟨Nat.le_of_ble_eq_true rfl, Nat.le_of_ble_eq_true rfl⟩ dX12_dealt_7 (fun r6114 u6115 H locs hr6114 hP hD hS => ?_)
    obtain ⟨jr16116, ip16117, gtrc6118⟩ := u6115
    try dsimp only at hr6114
    have hP : va_P G.1 vwCl [(h0, .inr (12, [.ref nw, .ref nk, .int mhasKept, .ref nt, .int mtaped, .ref nr, .int mrowMany, .int mroundOf, .int mroundFrom, .int mouts, .ref nm, .int mfromHour, .int mtoHour, .ref ns, .int mfrom, .int mto, .int msort, .int misFault, .int mdeep, .int mcoded, .int mlines, .ref nl, .ref nc, .ref nF, .ref np, .ref ntr, .ref nb, .int mbestCost, .ref nso, .ref nsi, .ref nit, .ref nsh, .ref nsf, .ref nss, .ref nrc, .int (nI jr16116), .int 1, .int mnumber, .int mwhose, .int msize, .int ip16117])), (nrc, .inl (G.2.1, 30, .inl gtrc6118))] H := hP
    have hD : va_D A [(h0, .inr (12, [.ref nw, .ref nk, .int mhasKept, .ref nt, .int mtaped, .ref nr, .int mrowMany, .int mroundOf, .int mroundFrom, .int mouts, .ref nm, .int mfromHour, .int mtoHour, .ref ns, .int mfrom, .int mto, .int msort, .int misFault, .int mdeep, .int mcoded, .int mlines, .ref nl, .ref nc, .ref nF, .ref np, .ref ntr, .ref nb, .int mbestCost, .ref nso, .ref nsi, .ref nit, .ref nsh, .ref nsf, .ref nss, .ref nrc, .int (nI jr16116), .int 1, .int mnumber, .int mwhose, .int msize, .int ip16117])), (nrc, .inl (G.2.1, 30, .inl gtrc6118))] := hD
    obtain ⟨hr6114, w6119⟩ := hr6114
    exact RI (v := r6114) hC hP hD hS [0, 1] (jr16116, ip16117, gtrc6118) rfl rfl (by decide) (⟨trivial, by omega⟩) rfl dX12_dealt_10
  · refine iV (wr := []) hC hK hl hP hD hS hA (m_from23 l G h0 xx nw nk mhasKept nt mtaped nr mrowMany mroundOf mroundFrom mouts nm mfromHour mtoHour ns mfrom mto msort misFault mdeep mcoded mlines nl nc nF np ntr nb mbestCost nso nsi nit nsh nsf nss nrc jr 2 mnumber mwhose msize misParted fnrc (by omega) (by omega)) si_X12_357 [0, 1] [] rfl rfl (by decide) rfl (by decide) (by decide) rfl rfl rfl rfl rfl (Nat.le_of_ble_eq_true rfl) ⟨Nat.le_of_ble_eq_true rfl, Nat.le_of_ble_eq_true rfl⟩ ⟨Nat.le_of_ble_eq_true rfl, Nat.le_of_ble_eq_true rfl⟩ dX12_dealt_7 (fun r6120 u6121 H locs hr6120 hP hD hS => ?_)
    obtain ⟨jr16122, ip16123, gtrc6124⟩ := u6121
    try dsimp only at hr6120
    have hP : va_P G.1 vwCl [(h0, .inr (12, [.ref nw, .ref nk, .int mhasKept, .ref nt, .int mtaped, .ref nr, .int mrowMany, .int mroundOf, .int mroundFrom, .int mouts, .ref nm, .int mfromHour, .int mtoHour, .ref ns, .int mfrom, .int mto, .int msort, .int misFault, .int mdeep, .int mcoded, .int mlines, .ref nl, .ref nc, .ref nF, .ref np, .ref ntr, .ref nb, .int mbestCost, .ref nso, .ref nsi, .ref nit, .ref nsh, .ref nsf, .ref nss, .ref nrc, .int (nI jr16122), .int 2, .int mnumber, .int mwhose, .int msize, .int ip16123])), (nrc, .inl (G.2.1, 30, .inl gtrc6124))] H := hP
    have hD : va_D A [(h0, .inr (12, [.ref nw, .ref nk, .int mhasKept, .ref nt, .int mtaped, .ref nr, .int mrowMany, .int mroundOf, .int mroundFrom, .int mouts, .ref nm, .int mfromHour, .int mtoHour, .ref ns, .int mfrom, .int mto, .int msort, .int misFault, .int mdeep, .int mcoded, .int mlines, .ref nl, .ref nc, .ref nF, .ref np, .ref ntr, .ref nb, .int mbestCost, .ref nso, .ref nsi, .ref nit, .ref nsh, .ref nsf, .ref nss, .ref nrc, .int (nI jr16122), .int 2, .int mnumber, .int mwhose, .int msize, .int ip16123])), (nrc, .inl (G.2.1, 30, .inl gtrc6124))] := hD
    obtain ⟨hr6120, w6125⟩ := hr6120
    exact RI (v := r6120) hC hP hD hS [0, 1] (jr16122, ip16123, gtrc6124) rfl rfl (by decide) (⟨trivial, by omega⟩) rfl dX12_dealt_10
  · refine iV (wr := []) hC hK hl hP hD hS hA (m_from33 l G h0 xx nw nk mhasKept nt mtaped nr mrowMany mroundOf mroundFrom mouts nm mfromHour mtoHour ns mfrom mto msort misFault mdeep mcoded mlines nl nc nF np ntr nb mbestCost nso nsi nit nsh nsf nss nrc jr 3 mnumber mwhose msize misParted fnrc (by omega) (by omega)) si_X12_357 [0, 1] [] rfl rfl (by decide) rfl (by decide) (by decide) rfl rfl rfl rfl rfl (Nat.le_of_ble_eq_true rfl) ⟨Nat.le_of_ble_eq_true rfl, Nat.le_of_ble_eq_true rfl⟩ ⟨Nat.le_of_ble_eq_true rfl, Nat.le_of_ble_eq_true rfl⟩ dX12_dealt_7 (fun r6126 u6127 H locs hr6126 hP hD hS => ?_)
    obtain ⟨jr16128, ip16129, gtrc6130⟩ := u6127
    try dsimp only at hr6126
    have hP : va_P G.1 vwCl [(h0, .inr (12, [.ref nw, .ref nk, .int mhasKept, .ref nt, .int mtaped, .ref nr, .int mrowMany, .int mroundOf, .int mroundFrom, .int mouts, .ref nm, .int mfromHour, .int mtoHour, .ref ns, .int mfrom, .int mto, .int msort, .int misFault, .int mdeep, .int mcoded, .int mlines, .ref nl, .ref nc, .ref nF, .ref np, .ref ntr, .ref nb, .int mbestCost, .ref nso, .ref nsi, .ref nit, .ref nsh, .ref nsf, .ref nss, .ref nrc, .int (nI jr16128), .int 3, .int mnumber, .int mwhose, .int msize, .int ip16129])), (nrc, .inl (G.2.1, 30, .inl gtrc6130))] H := hP
    have hD : va_D A [(h0, .inr (12, [.ref nw, .ref nk, .int mhasKept, .ref nt, .int mtaped, .ref nr, .int mrowMany, .int mroundOf, .int mroundFrom, .int mouts, .ref nm, .int mfromHour, .int mtoHour, .ref ns, .int mfrom, .int mto, .int msort, .int misFault, .int mdeep, .int mcoded, .int mlines, .ref nl, .ref nc, .ref nF, .ref np, .ref ntr, .ref nb, .int mbestCost, .ref nso, .ref nsi, .ref nit, .ref nsh, .ref nsf, .ref nss, .ref nrc, .int (nI jr16128), .int 3, .int mnumber, .int mwhose, .int msize, .int ip16129])), (nrc, .inl (G.2.1, 30, .inl gtrc6130))] := hD
    obtain ⟨hr6126, w6131⟩ := hr6126
    exact RI (v := r6126) hC hP hD hS [0, 1] (jr16128, ip16129, gtrc6130) rfl rfl (by decide) (⟨trivial, by omega⟩) rfl dX12_dealt_10
  · refine iV (wr := []) hC hK hl hP hD hS hA (m_from43 l G h0 xx nw nk mhasKept nt mtaped nr mrowMany mroundOf mroundFrom mouts nm mfromHour mtoHour ns mfrom mto msort misFault mdeep mcoded mlines nl nc nF np ntr nb mbestCost nso nsi nit nsh nsf nss nrc jr 4 mnumber mwhose msize misParted fnrc (by omega) (by omega)) si_X12_357 [0, 1] [] rfl rfl (by decide) rfl (by decide) (by decide) rfl rfl rfl rfl rfl (Nat.le_of_ble_eq_true rfl) ⟨Nat.le_of_ble_eq_true rfl, Nat.le_of_ble_eq_true rfl⟩ ⟨Nat.le_of_ble_eq_true rfl, Nat.le_of_ble_eq_true rfl⟩ dX12_dealt_7 (fun r6132 u6133 H locs hr6132 hP hD hS => ?_)
    obtain ⟨jr16134, ip16135, gtrc6136⟩ := u6133
    try dsimp only at hr6132
    have hP : va_P G.1 vwCl [(h0, .inr (12, [.ref nw, .ref nk, .int mhasKept, .ref nt, .int mtaped, .ref nr, .int mrowMany, .int mroundOf, .int mroundFrom, .int mouts, .ref nm, .int mfromHour, .int mtoHour, .ref ns, .int mfrom, .int mto, .int msort, .int misFault, .int mdeep, .int mcoded, .int mlines, .ref nl, .ref nc, .ref nF, .ref np, .ref ntr, .ref nb, .int mbestCost, .ref nso, .ref nsi, .ref nit, .ref nsh, .ref nsf, .ref nss, .ref nrc, .int (nI jr16134), .int 4, .int mnumber, .int mwhose, .int msize, .int ip16135])), (nrc, .inl (G.2.1, 30, .inl gtrc6136))] H := hP
    have hD : va_D A [(h0, .inr (12, [.ref nw, .ref nk, .int mhasKept, .ref nt, .int mtaped, .ref nr, .int mrowMany, .int mroundOf, .int mroundFrom, .int mouts, .ref nm, .int mfromHour, .int mtoHour, .ref ns, .int mfrom, .int mto, .int msort, .int misFault, .int mdeep, .int mcoded, .int mlines, .ref nl, .ref nc, .ref nF, .ref np, .ref ntr, .ref nb, .int mbestCost, .ref nso, .ref nsi, .ref nit, .ref nsh, .ref nsf, .ref nss, .ref nrc, .int (nI jr16134), .int 4, .int mnumber, .int mwhose, .int msize, .int ip16135])), (nrc, .inl (G.2.1, 30, .inl gtrc6136))] := hD
    obtain ⟨hr6132, w6137⟩ := hr6132
    exact RI (v := r6132) hC hP hD hS [0, 1] (jr16134, ip16135, gtrc6136) rfl rfl (by decide) (⟨trivial, by omega⟩) rfl dX12_dealt_10
  · refine iV (wr := []) hC hK hl hP hD hS hA (m_from53 l G h0 xx nw nk mhasKept nt mtaped nr mrowMany mroundOf mroundFrom mouts nm mfromHour mtoHour ns mfrom mto msort misFault mdeep mcoded mlines nl nc nF np ntr nb mbestCost nso nsi nit nsh nsf nss nrc jr 5 mnumber mwhose msize misParted fnrc (by omega) (by omega)) si_X12_357 [0, 1] [] rfl rfl (by decide) rfl (by decide) (by decide) rfl rfl rfl rfl rfl (Nat.le_of_ble_eq_true rfl) ⟨Nat.le_of_ble_eq_true rfl, Nat.le_of_ble_eq_true rfl⟩ ⟨Nat.le_of_ble_eq_true rfl, Nat.le_of_ble_eq_true rfl⟩ dX12_dealt_7 (fun r6138 u6139 H locs hr6138 hP hD hS => ?_)
    obtain ⟨jr16140, ip16141, gtrc6142⟩ := u6139
    try dsimp only at hr6138
    have hP : va_P G.1 vwCl [(h0, .inr (12, [.ref nw, .ref nk, .int mhasKept, .ref nt, .int mtaped, .ref nr, .int mrowMany, .int mroundOf, .int mroundFrom, .int mouts, .ref nm, .int mfromHour, .int mtoHour, .ref ns, .int mfrom, .int mto, .int msort, .int misFault, .int mdeep, .int mcoded, .int mlines, .ref nl, .ref nc, .ref nF, .ref np, .ref ntr, .ref nb, .int mbestCost, .ref nso, .ref nsi, .ref nit, .ref nsh, .ref nsf, .ref nss, .ref nrc, .int (nI jr16140), .int 5, .int mnumber, .int mwhose, .int msize, .int ip16141])), (nrc, .inl (G.2.1, 30, .inl gtrc6142))] H := hP
    have hD : va_D A [(h0, .inr (12, [.ref nw, .ref nk, .int mhasKept, .ref nt, .int mtaped, .ref nr, .int mrowMany, .int mroundOf, .int mroundFrom, .int mouts, .ref nm, .int mfromHour, .int mtoHour, .ref ns, .int mfrom, .int mto, .int msort, .int misFault, .int mdeep, .int mcoded, .int mlines, .ref nl, .ref nc, .ref nF, .ref np, .ref ntr, .ref nb, .int mbestCost, .ref nso, .ref nsi, .ref nit, .ref nsh, .ref nsf, .ref nss, .ref nrc, .int (nI jr16140), .int 5, .int mnumber, .int mwhose, .int msize, .int ip16141])), (nrc, .inl (G.2.1, 30, .inl gtrc6142))] := hD
    obtain ⟨hr6138, w6143⟩ := hr6138
    exact RI (v := r6138) hC hP hD hS [0, 1] (jr16140, ip16141, gtrc6142) rfl rfl (by decide) (⟨trivial, by omega⟩) rfl dX12_dealt_10
  · refine iV (wr := []) hC hK hl hP hD hS hA (m_from63 l G h0 xx nw nk mhasKept nt mtaped nr mrowMany mroundOf mroundFrom mouts nm mfromHour mtoHour ns mfrom mto msort misFault mdeep mcoded mlines nl nc nF np ntr nb mbestCost nso nsi nit nsh nsf nss nrc jr 6 mnumber mwhose msize misParted fnrc (by omega) (by omega)) si_X12_357 [0, 1] [] rfl rfl (by decide) rfl (by decide) (by decide) rfl rfl rfl rfl rfl (Nat.le_of_ble_eq_true rfl) ⟨Nat.le_of_ble_eq_true rfl, Nat.le_of_ble_eq_true rfl⟩ ⟨Nat.le_of_ble_eq_true rfl, Nat.le_of_ble_eq_true rfl⟩ dX12_dealt_7 (fun r6144 u6145 H locs hr6144 hP hD hS => ?_)
    obtain ⟨jr16146, ip16147, gtrc6148⟩ := u6145
    try dsimp only at hr6144
    have hP : va_P G.1 vwCl [(h0, .inr (12, [.ref nw, .ref nk, .int mhasKept, .ref nt, .int mtaped, .ref nr, .int mrowMany, .int mroundOf, .int mroundFrom, .int mouts, .ref nm, .int mfromHour, .int mtoHour, .ref ns, .int mfrom, .int mto, .int msort, .int misFault, .int mdeep, .int mcoded, .int mlines, .ref nl, .ref nc, .ref nF, .ref np, .ref ntr, .ref nb, .int mbestCost, .ref nso, .ref nsi, .ref nit, .ref nsh, .ref nsf, .ref nss, .ref nrc, .int (nI jr16146), .int 6, .int mnumber, .int mwhose, .int msize, .int ip16147])), (nrc, .inl (G.2.1, 30, .inl gtrc6148))] H := hP
    have hD : va_D A [(h0, .inr (12, [.ref nw, .ref nk, .int mhasKept, .ref nt, .int mtaped, .ref nr, .int mrowMany, .int mroundOf, .int mroundFrom, .int mouts, .ref nm, .int mfromHour, .int mtoHour, .ref ns, .int mfrom, .int mto, .int msort, .int misFault, .int mdeep, .int mcoded, .int mlines, .ref nl, .ref nc, .ref nF, .ref np, .ref ntr, .ref nb, .int mbestCost, .ref nso, .ref nsi, .ref nit, .ref nsh, .ref nsf, .ref nss, .ref nrc, .int (nI jr16146), .int 6, .int mnumber, .int mwhose, .int msize, .int ip16147])), (nrc, .inl (G.2.1, 30, .inl gtrc6148))] := hD
    obtain ⟨hr6144, w6149⟩ := hr6144
    exact RI (v := r6144) hC hP hD hS [0, 1] (jr16146, ip16147, gtrc6148) rfl rfl (by decide) (⟨trivial, by omega⟩) rfl dX12_dealt_10
set_option maxHeartbeats 4000000 in
set_option maxRecDepth 100000 in
theorem w_deal (l : Launch) (G : GG) (h0 : Nat) (x1 : Int32) (x2 : Int32) (x3 : Int32) (nw : Nat) (nk : Nat) (mhasKept : Int32) (nt : Nat) (mtaped : Int32) (nr : Nat) (mrowMany : Int32) (mroundOf : Int32) (mroundFrom : Int32) (mouts : Int32) (nm : Nat) (mfromHour : Int32) (mtoHour : Int32) (ns : Nat) (mfrom : Int32) (mto : Int32) (msort : Int32) (misFault : Int32) (mdeep : Int32) (mcoded : Int32) (mlines : Int32) (nl : Nat) (nc : Nat) (nF : Nat) (np : Nat) (ntr : Nat) (nb : Nat) (mbestCost : Int32) (nso : Nat) (nsi : Nat) (nit : Nat) (nsh : Nat) (nsf : Nat) (nss : Nat) (nrc : Nat) (mtraced : Int32) (mdealer : Int32) (mnumber : Int32) (mwhose : Int32) (msize : Int32) (misParted : Int32) (fnw : Nat → Int32) (fnsh : Nat → Int32) (fnsf : Nat → Int32) (fnrc : Nat → Int32) (hN : NI fnw) : MI l G yX12_deal cX12_deal 8 (some .int) 60 0 0 [.ref h0, .int x1, .int x2, .int x3] [(h0, .inr (12, [.ref nw, .ref nk, .int mhasKept, .ref nt, .int mtaped, .ref nr, .int mrowMany, .int mroundOf, .int mroundFrom, .int mouts, .ref nm, .int mfromHour, .int mtoHour, .ref ns, .int mfrom, .int mto, .int msort, .int misFault, .int mdeep, .int mcoded, .int mlines, .ref nl, .ref nc, .ref nF, .ref np, .ref ntr, .ref nb, .int mbestCost, .ref nso, .ref nsi, .ref nit, .ref nsh, .ref nsf, .ref nss, .ref nrc, .int mtraced, .int mdealer, .int mnumber, .int mwhose, .int msize, .int misParted])), (nw, .inl (G.2.1, 1662, .inl fnw)), (nsh, .inl (G.2.1, 4, .inl fnsh)), (nsf, .inl (G.2.1, 4, .inl fnsf)), (nrc, .inl (G.2.1, 30, .inl fnrc))] (fun (r : Int32) (u : Nat × Int32 × Int32 × Int32 × Int32 × Int32 × (Nat → Int32)) => (True) ∧ (u.1 ≤ 30)) (fun u : Nat × Int32 × Int32 × Int32 × Int32 × Int32 × (Nat → Int32) => [(h0, .inr (12, [.ref nw, .ref nk, .int mhasKept, .ref nt, .int mtaped, .ref nr, .int mrowMany, .int mroundOf, .int mroundFrom, .int mouts, .ref nm, .int mfromHour, .int mtoHour, .ref ns, .int mfrom, .int mto, .int msort, .int misFault, .int mdeep, .int mcoded, .int mlines, .ref nl, .ref nc, .ref nF, .ref np, .ref ntr, .ref nb, .int mbestCost, .ref nso, .ref nsi, .ref nit, .ref nsh, .ref nsf, .ref nss, .ref nrc, .int (nI u.1), .int u.2.1, .int u.2.2.1, .int u.2.2.2.1, .int u.2.2.2.2.1, .int u.2.2.2.2.2.1])), (nw, .inl (G.2.1, 1662, .inl fnw)), (nsh, .inl (G.2.1, 4, .inl fnsh)), (nsf, .inl (G.2.1, 4, .inl fnsf)), (nrc, .inl (G.2.1, 30, .inl u.2.2.2.2.2.2))]) := by
  refine MI.start (by decide +kernel) (Nat.le_of_ble_eq_true rfl) ?_
  intro p e s m below meth c A ls hC hK hP hD hS hA hl
  have hl : lv_has ls 8 [(0, .ref h0), (1, .int x1), (2, .int x2), (3, .int x3)] := hl
  obtain ⟨hx, hb, hr, hml, hB, hown, hlocks, hnm⟩ := id hC
  refine lv_aload_n hx hb dX12_deal_0 rfl (lv_at hl 0 rfl) ?_
  refine lv_iconst (v := 0) hx hb dX12_deal_1 (by decide) ?_
  refine pf_X12_351 hC rfl hK hP hD hS 0 (ws' := [(h0, .inr (12, [.ref nw, .ref nk, .int mhasKept, .ref nt, .int mtaped, .ref nr, .int mrowMany, .int mroundOf, .int mroundFrom, .int mouts, .ref nm, .int mfromHour, .int mtoHour, .ref ns, .int mfrom, .int mto, .int msort, .int misFault, .int mdeep, .int mcoded, .int mlines, .ref nl, .ref nc, .ref nF, .ref np, .ref ntr, .ref nb, .int mbestCost, .ref nso, .ref nsi, .ref nit, .ref nsh, .ref nsf, .ref nss, .ref nrc, .int 0, .int mdealer, .int mnumber, .int mwhose, .int msize, .int misParted])), (nw, .inl (G.2.1, 1662, .inl fnw)), (nsh, .inl (G.2.1, 4, .inl fnsh)), (nsf, .inl (G.2.1, 4, .inl fnsf)), (nrc, .inl (G.2.1, 30, .inl fnrc))]) rfl (Nat.le_of_ble_eq_true rfl) rfl rfl rfl dX12_deal_2 (fun H locs hP hD hS => ?_)
  refine lv_iload_n hx hb dX12_deal_5 rfl (lv_at hl 1 rfl) ?_
  refine pS hC hK hl (m_isFour l G x1) si_X12_336 rfl rfl (Nat.le_of_ble_eq_true rfl) ⟨Nat.le_of_ble_eq_true rfl, Nat.le_of_ble_eq_true rfl⟩ ⟨by first | exact Nat.le_of_ble_eq_true rfl | exact Nat.zero_le _, by first | exact Nat.le_of_ble_eq_true rfl | exact Nat.zero_le _⟩ dX12_deal_6 (fun r6150 hr6150 => ?_)
  rcases hr6150 with ⟨rfl, a6151⟩ | ⟨rfl, a6151⟩
  · refine lv_if_eq (tgt := 19) hx hb dX12_deal_9 (by decide) (fun c9 => absurd c9 (by decide)) (fun _ => ?_)
    refine lv_iload_n hx hb dX12_deal_12 rfl (lv_at hl 2 rfl) ?_
    refine pS hC hK hl (m_isFour l G x2) si_X12_336 rfl rfl (Nat.le_of_ble_eq_true rfl) ⟨Nat.le_of_ble_eq_true rfl, Nat.le_of_ble_eq_true rfl⟩ ⟨by first | exact Nat.le_of_ble_eq_true rfl | exact Nat.zero_le _, by first | exact Nat.le_of_ble_eq_true rfl | exact Nat.zero_le _⟩ dX12_deal_13 (fun r6152 hr6152 => ?_)
    rcases hr6152 with ⟨rfl, a6153⟩ | ⟨rfl, a6153⟩
    · refine lv_if_ne (tgt := 23) hx hb dX12_deal_16 (by decide) (fun _ => ?_) (fun c9 => absurd c9 (by decide))
      obtain ⟨jt, hjt, rfl⟩ := Wi_nat (N := 3) (by decide) a6151
      refine lv_aload_n hx hb dX12_deal_23 rfl (lv_at hl 0 rfl) ?_
      refine lv_iload_n hx hb dX12_deal_24 rfl (lv_at hl 1 rfl) ?_
      refine pV hC hK hl hP hD (m_kindOn l G h0 jt nw nk mhasKept nt mtaped nr mrowMany mroundOf mroundFrom mouts nm mfromHour mtoHour ns mfrom mto msort misFault mdeep mcoded mlines nl nc nF np ntr nb mbestCost nso nsi nit nsh nsf nss nrc 0 mdealer mnumber mwhose msize misParted fnw fnsh fnsf (by omega) (hN)) si_X12_345 [0, 1, 2, 3] rfl rfl (by decide) rfl rfl rfl rfl rfl (Nat.le_of_ble_eq_true rfl) ⟨Nat.le_of_ble_eq_true rfl, Nat.le_of_ble_eq_true rfl⟩ ⟨by first | exact Nat.le_of_ble_eq_true rfl | exact Nat.zero_le _, by first | exact Nat.le_of_ble_eq_true rfl | exact Nat.zero_le _⟩ dX12_deal_25 (fun r6154 hr6154 => ?_)
      rcases hr6154 with rfl | ⟨rfl, a6155⟩ | ⟨rfl, a6155⟩ | ⟨rfl, a6155⟩ | ⟨rfl, a6155⟩ | ⟨rfl, a6155⟩ | ⟨rfl, a6155⟩
      · refine lv_istore (lv' := [(4, .int (-1)), (0, .ref h0), (1, .int (nI jt)), (2, .int x2), (3, .int x3)]) hx hb dX12_deal_28 hl (by decide) rfl (fun ls hl => ?_)
        refine lv_iload hx hb dX12_deal_30 (lv_at hl 0 rfl) ?_
        refine lv_if_ge (tgt := 37) hx hb dX12_deal_32 (by decide) (fun c9 => absurd c9 (by decide)) (fun _ => ?_)
        refine lv_iconst (v := 0) hx hb dX12_deal_35 (by decide) ?_
        exact RI (v := 0) hC hP hD hS [0, 1, 2, 3, 4] (0, mdealer, mnumber, mwhose, msize, misParted, fnrc) rfl rfl (by decide) (⟨trivial, by omega⟩) rfl dX12_deal_36
      · refine lv_istore (lv' := [(4, .int 1), (0, .ref h0), (1, .int (nI jt)), (2, .int x2), (3, .int x3)]) hx hb dX12_deal_28 hl (by decide) rfl (fun ls hl => ?_)
        refine lv_iload hx hb dX12_deal_30 (lv_at hl 0 rfl) ?_
        refine lv_if_ge (tgt := 37) hx hb dX12_deal_32 (by decide) (fun _ => ?_) (fun c9 => absurd (by decide) c9)
        refine lv_aload_n hx hb dX12_deal_37 rfl (lv_at hl 1 rfl) ?_
        refine lv_iload hx hb dX12_deal_38 (lv_at hl 0 rfl) ?_
        refine pf_X12_354 hC rfl hK hP hD hS 0 (ws' := [(h0, .inr (12, [.ref nw, .ref nk, .int mhasKept, .ref nt, .int mtaped, .ref nr, .int mrowMany, .int mroundOf, .int mroundFrom, .int mouts, .ref nm, .int mfromHour, .int mtoHour, .ref ns, .int mfrom, .int mto, .int msort, .int misFault, .int mdeep, .int mcoded, .int mlines, .ref nl, .ref nc, .ref nF, .ref np, .ref ntr, .ref nb, .int mbestCost, .ref nso, .ref nsi, .ref nit, .ref nsh, .ref nsf, .ref nss, .ref nrc, .int 0, .int 1, .int mnumber, .int mwhose, .int msize, .int misParted])), (nw, .inl (G.2.1, 1662, .inl fnw)), (nsh, .inl (G.2.1, 4, .inl fnsh)), (nsf, .inl (G.2.1, 4, .inl fnsf)), (nrc, .inl (G.2.1, 30, .inl fnrc))]) rfl (Nat.le_of_ble_eq_true rfl) rfl rfl rfl dX12_deal_40 (fun H locs hP hD hS => ?_)
        refine lv_aload_n hx hb dX12_deal_43 rfl (lv_at hl 1 rfl) ?_
        refine lv_aload_n hx hb dX12_deal_44 rfl (lv_at hl 1 rfl) ?_
        refine gf_X12_75 hC rfl hK hP 0 rfl rfl dX12_deal_45 ?_
        refine lv_iload_n hx hb dX12_deal_48 rfl (lv_at hl 2 rfl) ?_
        refine ald hC hK hP 3 rfl (vp_in_nI (by omega) (by omega)) (k := jt) (nI_clamp (by omega)) (v := fnsf jt) rfl dX12_deal_49 ?_
        refine lv_topi (fun x6156 ex6156 => ?_)
        obtain ⟨hko9, jno, hjno, ejno⟩ := a6155
        refine eqi (x1 := nI jno) (ex6156.trans ejno) ?_
        refine pf_X12_378 hC rfl hK hP hD hS 0 (ws' := [(h0, .inr (12, [.ref nw, .ref nk, .int mhasKept, .ref nt, .int mtaped, .ref nr, .int mrowMany, .int mroundOf, .int mroundFrom, .int mouts, .ref nm, .int mfromHour, .int mtoHour, .ref ns, .int mfrom, .int mto, .int msort, .int misFault, .int mdeep, .int mcoded, .int mlines, .ref nl, .ref nc, .ref nF, .ref np, .ref ntr, .ref nb, .int mbestCost, .ref nso, .ref nsi, .ref nit, .ref nsh, .ref nsf, .ref nss, .ref nrc, .int 0, .int 1, .int (nI jno), .int mwhose, .int msize, .int misParted])), (nw, .inl (G.2.1, 1662, .inl fnw)), (nsh, .inl (G.2.1, 4, .inl fnsh)), (nsf, .inl (G.2.1, 4, .inl fnsf)), (nrc, .inl (G.2.1, 30, .inl fnrc))]) rfl (Nat.le_of_ble_eq_true rfl) rfl rfl rfl dX12_deal_50 (fun H locs hP hD hS => ?_)
        refine lv_aload_n hx hb dX12_deal_53 rfl (lv_at hl 1 rfl) ?_
        refine gf_X12_72 hC rfl hK hP 0 rfl rfl dX12_deal_54 ?_
        refine lv_iload_n hx hb dX12_deal_57 rfl (lv_at hl 2 rfl) ?_
        refine ald hC hK hP 2 rfl (vp_in_nI (by omega) (by omega)) (k := jt) (nI_clamp (by omega)) (v := fnsh jt) rfl dX12_deal_58 ?_
        refine lv_topi (fun x6157 ex6157 => ?_)
        refine lv_iconst (v := 1) hx hb dX12_deal_59 (by decide) ?_
        refine lv_icmp_ne (tgt := 67) hx hb dX12_deal_60 (by decide) (fun c9 => absurd (ex6157.trans hko9) c9) (fun _ => ?_)
        refine lv_iconst (v := 1) hx hb dX12_deal_63 (by decide) ?_
        refine lv_goto (tgt := 68) hx hb dX12_deal_64 (by decide) ?_
        refine lv_istore (lv' := [(5, .int 1), (4, .int 1), (0, .ref h0), (1, .int (nI jt)), (2, .int x2), (3, .int x3)]) hx hb dX12_deal_68 hl (by decide) rfl (fun ls hl => ?_)
        refine lv_aload_n hx hb dX12_deal_70 rfl (lv_at hl 2 rfl) ?_
        refine gf_X12_72 hC rfl hK hP 0 rfl rfl dX12_deal_71 ?_
        refine lv_iload_n hx hb dX12_deal_74 rfl (lv_at hl 3 rfl) ?_
        refine ald hC hK hP 2 rfl (vp_in_nI (by omega) (by omega)) (k := jt) (nI_clamp (by omega)) (v := fnsh jt) rfl dX12_deal_75 ?_
        refine lv_topi (fun x6158 ex6158 => ?_)
        refine lv_iconst (v := 2) hx hb dX12_deal_76 (by decide) ?_
        refine lv_icmp_ne (tgt := 84) hx hb dX12_deal_77 (by decide) (fun _ => ?_) (fun c9 => absurd c9 (fun h9 => absurd (hko9.symm.trans ((ex6158.symm).trans h9)) (by decide)))
        refine lv_iconst (v := 0) hx hb dX12_deal_84 (by decide) ?_
        refine lv_istore (lv' := [(6, .int 0), (5, .int 1), (4, .int 1), (0, .ref h0), (1, .int (nI jt)), (2, .int x2), (3, .int x3)]) hx hb dX12_deal_85 hl (by decide) rfl (fun ls hl => ?_)
        refine lv_aload_n hx hb dX12_deal_87 rfl (lv_at hl 3 rfl) ?_
        refine lv_iload hx hb dX12_deal_88 (lv_at hl 1 rfl) ?_
        refine lv_if_eq (tgt := 105) hx hb dX12_deal_90 (by decide) (fun c9 => absurd c9 (by decide)) (fun _ => ?_)
        refine lv_aload_n hx hb dX12_deal_93 rfl (lv_at hl 3 rfl) ?_
        refine lv_aload_n hx hb dX12_deal_94 rfl (lv_at hl 3 rfl) ?_
        refine gf_X12_378 hC rfl hK hP 0 rfl rfl dX12_deal_95 ?_
        refine lv_iconst (v := 0) hx hb dX12_deal_98 (by decide) ?_
        refine pV hC hK hl hP hD (m_paper l G h0 jno 0 nw nk mhasKept nt mtaped nr mrowMany mroundOf mroundFrom mouts nm mfromHour mtoHour ns mfrom mto msort misFault mdeep mcoded mlines nl nc nF np ntr nb mbestCost nso nsi nit nsh nsf nss nrc 0 1 (nI jno) mwhose msize misParted fnw (by omega) (by omega)) si_X12_88 [0, 1] rfl rfl (by decide) rfl rfl rfl rfl rfl (Nat.le_of_ble_eq_true rfl) ⟨Nat.le_of_ble_eq_true rfl, Nat.le_of_ble_eq_true rfl⟩ ⟨by first | exact Nat.le_of_ble_eq_true rfl | exact Nat.zero_le _, by first | exact Nat.le_of_ble_eq_true rfl | exact Nat.zero_le _⟩ dX12_deal_99 (fun r6159 hr6159 => ?_)
        obtain rfl := hr6159
        refine lv_goto (tgt := 139) hx hb dX12_deal_102 (by decide) ?_
        refine pf_X12_375 hC rfl hK hP hD hS 0 (ws' := [(h0, .inr (12, [.ref nw, .ref nk, .int mhasKept, .ref nt, .int mtaped, .ref nr, .int mrowMany, .int mroundOf, .int mroundFrom, .int mouts, .ref nm, .int mfromHour, .int mtoHour, .ref ns, .int mfrom, .int mto, .int msort, .int misFault, .int mdeep, .int mcoded, .int mlines, .ref nl, .ref nc, .ref nF, .ref np, .ref ntr, .ref nb, .int mbestCost, .ref nso, .ref nsi, .ref nit, .ref nsh, .ref nsf, .ref nss, .ref nrc, .int 0, .int 1, .int (nI jno), .int (fnw (32 + 6 * jno + 0)), .int msize, .int misParted])), (nw, .inl (G.2.1, 1662, .inl fnw)), (nsh, .inl (G.2.1, 4, .inl fnsh)), (nsf, .inl (G.2.1, 4, .inl fnsf)), (nrc, .inl (G.2.1, 30, .inl fnrc))]) rfl (Nat.le_of_ble_eq_true rfl) rfl rfl rfl dX12_deal_139 (fun H locs hP hD hS => ?_)
        refine lv_aload_n hx hb dX12_deal_142 rfl (lv_at hl 3 rfl) ?_
        refine lv_iload hx hb dX12_deal_143 (lv_at hl 1 rfl) ?_
        refine lv_if_eq (tgt := 160) hx hb dX12_deal_145 (by decide) (fun c9 => absurd c9 (by decide)) (fun _ => ?_)
        refine lv_aload_n hx hb dX12_deal_148 rfl (lv_at hl 3 rfl) ?_
        refine lv_aload_n hx hb dX12_deal_149 rfl (lv_at hl 3 rfl) ?_
        refine gf_X12_378 hC rfl hK hP 0 rfl rfl dX12_deal_150 ?_
        refine lv_iconst (v := 2) hx hb dX12_deal_153 (by decide) ?_
        refine pV hC hK hl hP hD (m_paper l G h0 jno 2 nw nk mhasKept nt mtaped nr mrowMany mroundOf mroundFrom mouts nm mfromHour mtoHour ns mfrom mto msort misFault mdeep mcoded mlines nl nc nF np ntr nb mbestCost nso nsi nit nsh nsf nss nrc 0 1 (nI jno) (fnw (32 + 6 * jno + 0)) msize misParted fnw (by omega) (by omega)) si_X12_88 [0, 1] rfl rfl (by decide) rfl rfl rfl rfl rfl (Nat.le_of_ble_eq_true rfl) ⟨Nat.le_of_ble_eq_true rfl, Nat.le_of_ble_eq_true rfl⟩ ⟨by first | exact Nat.le_of_ble_eq_true rfl | exact Nat.zero_le _, by first | exact Nat.le_of_ble_eq_true rfl | exact Nat.zero_le _⟩ dX12_deal_154 (fun r6161 hr6161 => ?_)
        obtain rfl := hr6161
        refine lv_goto (tgt := 194) hx hb dX12_deal_157 (by decide) ?_
        refine pf_X12_369 hC rfl hK hP hD hS 0 (ws' := [(h0, .inr (12, [.ref nw, .ref nk, .int mhasKept, .ref nt, .int mtaped, .ref nr, .int mrowMany, .int mroundOf, .int mroundFrom, .int mouts, .ref nm, .int mfromHour, .int mtoHour, .ref ns, .int mfrom, .int mto, .int msort, .int misFault, .int mdeep, .int mcoded, .int mlines, .ref nl, .ref nc, .ref nF, .ref np, .ref ntr, .ref nb, .int mbestCost, .ref nso, .ref nsi, .ref nit, .ref nsh, .ref nsf, .ref nss, .ref nrc, .int 0, .int 1, .int (nI jno), .int (fnw (32 + 6 * jno + 0)), .int (fnw (32 + 6 * jno + 2)), .int misParted])), (nw, .inl (G.2.1, 1662, .inl fnw)), (nsh, .inl (G.2.1, 4, .inl fnsh)), (nsf, .inl (G.2.1, 4, .inl fnsf)), (nrc, .inl (G.2.1, 30, .inl fnrc))]) rfl (Nat.le_of_ble_eq_true rfl) rfl rfl rfl dX12_deal_194 (fun H locs hP hD hS => ?_)
        refine lv_aload_n hx hb dX12_deal_197 rfl (lv_at hl 3 rfl) ?_
        refine lv_iconst (v := 0) hx hb dX12_deal_198 (by decide) ?_
        refine pf_X12_380 hC rfl hK hP hD hS 0 (ws' := [(h0, .inr (12, [.ref nw, .ref nk, .int mhasKept, .ref nt, .int mtaped, .ref nr, .int mrowMany, .int mroundOf, .int mroundFrom, .int mouts, .ref nm, .int mfromHour, .int mtoHour, .ref ns, .int mfrom, .int mto, .int msort, .int misFault, .int mdeep, .int mcoded, .int mlines, .ref nl, .ref nc, .ref nF, .ref np, .ref ntr, .ref nb, .int mbestCost, .ref nso, .ref nsi, .ref nit, .ref nsh, .ref nsf, .ref nss, .ref nrc, .int 0, .int 1, .int (nI jno), .int (fnw (32 + 6 * jno + 0)), .int (fnw (32 + 6 * jno + 2)), .int 0])), (nw, .inl (G.2.1, 1662, .inl fnw)), (nsh, .inl (G.2.1, 4, .inl fnsh)), (nsf, .inl (G.2.1, 4, .inl fnsf)), (nrc, .inl (G.2.1, 30, .inl fnrc))]) rfl (Nat.le_of_ble_eq_true rfl) rfl (by decide +kernel) (by decide +kernel) dX12_deal_199 (fun H locs hP hD hS => ?_)
        obtain ⟨jdl, hjdl, rfl⟩ := Wi_nat (N := 3) (by decide) a6153
        rcases (show jdl = 0 ∨ jdl = 1 ∨ jdl = 2 ∨ jdl = 3 by omega) with rfl | rfl | rfl | rfl
        · refine lv_aload_n hx hb dX12_deal_202 rfl (lv_at hl 3 rfl) ?_
          refine lv_iload_n hx hb dX12_deal_203 rfl (lv_at hl 5 rfl) ?_
          refine lv_iload_n hx hb dX12_deal_204 rfl (lv_at hl 6 rfl) ?_
          refine iV (wr := [(nw, .inl (G.2.1, 1662, .inl fnw)), (nsh, .inl (G.2.1, 4, .inl fnsh)), (nsf, .inl (G.2.1, 4, .inl fnsf))]) hC hK hl hP hD hS hA (m_dealt0 l G h0 x3 nw nk mhasKept nt mtaped nr mrowMany mroundOf mroundFrom mouts nm mfromHour mtoHour ns mfrom mto msort misFault mdeep mcoded mlines nl nc nF np ntr nb mbestCost nso nsi nit nsh nsf nss nrc 0 1 (nI jno) (fnw (32 + 6 * jno + 0)) (fnw (32 + 6 * jno + 2)) 0 fnrc (by omega) (by omega)) si_X12_372 [0, 4] [1, 2, 3] rfl rfl (by decide) rfl (by decide) (by decide) rfl rfl rfl rfl rfl (Nat.le_of_ble_eq_true rfl) ⟨Nat.le_of_ble_eq_true rfl, Nat.le_of_ble_eq_true rfl⟩ ⟨Nat.le_of_ble_eq_true rfl, Nat.le_of_ble_eq_true rfl⟩ dX12_deal_205 (fun r6163 u6164 H locs hr6163 hP hD hS => ?_)
          obtain ⟨jr16165, ip16166, gtrc6167⟩ := u6164
          try dsimp only at hr6163
          have hP : va_P G.1 vwCl [(nw, .inl (G.2.1, 1662, .inl fnw)), (nsh, .inl (G.2.1, 4, .inl fnsh)), (nsf, .inl (G.2.1, 4, .inl fnsf)), (h0, .inr (12, [.ref nw, .ref nk, .int mhasKept, .ref nt, .int mtaped, .ref nr, .int mrowMany, .int mroundOf, .int mroundFrom, .int mouts, .ref nm, .int mfromHour, .int mtoHour, .ref ns, .int mfrom, .int mto, .int msort, .int misFault, .int mdeep, .int mcoded, .int mlines, .ref nl, .ref nc, .ref nF, .ref np, .ref ntr, .ref nb, .int mbestCost, .ref nso, .ref nsi, .ref nit, .ref nsh, .ref nsf, .ref nss, .ref nrc, .int (nI jr16165), .int 1, .int (nI jno), .int (fnw (32 + 6 * jno + 0)), .int (fnw (32 + 6 * jno + 2)), .int ip16166])), (nrc, .inl (G.2.1, 30, .inl gtrc6167))] H := hP
          have hD : va_D A [(nw, .inl (G.2.1, 1662, .inl fnw)), (nsh, .inl (G.2.1, 4, .inl fnsh)), (nsf, .inl (G.2.1, 4, .inl fnsf)), (h0, .inr (12, [.ref nw, .ref nk, .int mhasKept, .ref nt, .int mtaped, .ref nr, .int mrowMany, .int mroundOf, .int mroundFrom, .int mouts, .ref nm, .int mfromHour, .int mtoHour, .ref ns, .int mfrom, .int mto, .int msort, .int misFault, .int mdeep, .int mcoded, .int mlines, .ref nl, .ref nc, .ref nF, .ref np, .ref ntr, .ref nb, .int mbestCost, .ref nso, .ref nsi, .ref nit, .ref nsh, .ref nsf, .ref nss, .ref nrc, .int (nI jr16165), .int 1, .int (nI jno), .int (fnw (32 + 6 * jno + 0)), .int (fnw (32 + 6 * jno + 2)), .int ip16166])), (nrc, .inl (G.2.1, 30, .inl gtrc6167))] := hD
          obtain ⟨hr6163, w6168⟩ := hr6163
          refine lv_istore (lv' := [(7, .int r6163), (6, .int 0), (5, .int 1), (4, .int 1), (0, .ref h0), (1, .int (nI jt)), (2, .int 0), (3, .int x3)]) hx hb dX12_deal_208 hl (by decide) rfl (fun ls hl => ?_)
          refine lv_aload_n hx hb dX12_deal_210 rfl (lv_at hl 4 rfl) ?_
          refine gf_X12_380 hC rfl hK hP 3 rfl rfl dX12_deal_211 ?_
          refine lv_if_eq (tgt := 222) hx hb dX12_deal_214 (by decide) (fun c_214_6169 => ?_) (fun c_214_6169 => ?_)
          · refine lv_iload hx hb dX12_deal_222 (lv_at hl 0 rfl) ?_
            exact RI (v := r6163) hC hP hD hS [3, 0, 1, 2, 4] (jr16165, 1, nI jno, fnw (32 + 6 * jno + 0), fnw (32 + 6 * jno + 2), ip16166, gtrc6167) rfl rfl (by decide) (⟨trivial, by omega⟩) rfl dX12_deal_224
          · refine lv_bipush (v := (-15)) hx hb dX12_deal_217 (by decide) ?_
            refine lv_goto (tgt := 224) hx hb dX12_deal_219 (by decide) ?_
            exact RI (v := (-15)) hC hP hD hS [3, 0, 1, 2, 4] (jr16165, 1, nI jno, fnw (32 + 6 * jno + 0), fnw (32 + 6 * jno + 2), ip16166, gtrc6167) rfl rfl (by decide) (⟨trivial, by omega⟩) rfl dX12_deal_224
        · refine lv_aload_n hx hb dX12_deal_202 rfl (lv_at hl 3 rfl) ?_
          refine lv_iload_n hx hb dX12_deal_203 rfl (lv_at hl 5 rfl) ?_
          refine lv_iload_n hx hb dX12_deal_204 rfl (lv_at hl 6 rfl) ?_
          refine iV (wr := [(nw, .inl (G.2.1, 1662, .inl fnw)), (nsh, .inl (G.2.1, 4, .inl fnsh)), (nsf, .inl (G.2.1, 4, .inl fnsf))]) hC hK hl hP hD hS hA (m_dealt1 l G h0 x3 nw nk mhasKept nt mtaped nr mrowMany mroundOf mroundFrom mouts nm mfromHour mtoHour ns mfrom mto msort misFault mdeep mcoded mlines nl nc nF np ntr nb mbestCost nso nsi nit nsh nsf nss nrc 0 1 (nI jno) (fnw (32 + 6 * jno + 0)) (fnw (32 + 6 * jno + 2)) 0 fnrc (by omega) (by omega)) si_X12_372 [0, 4] [1, 2, 3] rfl rfl (by decide) rfl (by decide) (by decide) rfl rfl rfl rfl rfl (Nat.le_of_ble_eq_true rfl) ⟨Nat.le_of_ble_eq_true rfl, Nat.le_of_ble_eq_true rfl⟩ ⟨Nat.le_of_ble_eq_true rfl, Nat.le_of_ble_eq_true rfl⟩ dX12_deal_205 (fun r6170 u6171 H locs hr6170 hP hD hS => ?_)
          obtain ⟨jr16172, ip16173, gtrc6174⟩ := u6171
          try dsimp only at hr6170
          have hP : va_P G.1 vwCl [(nw, .inl (G.2.1, 1662, .inl fnw)), (nsh, .inl (G.2.1, 4, .inl fnsh)), (nsf, .inl (G.2.1, 4, .inl fnsf)), (h0, .inr (12, [.ref nw, .ref nk, .int mhasKept, .ref nt, .int mtaped, .ref nr, .int mrowMany, .int mroundOf, .int mroundFrom, .int mouts, .ref nm, .int mfromHour, .int mtoHour, .ref ns, .int mfrom, .int mto, .int msort, .int misFault, .int mdeep, .int mcoded, .int mlines, .ref nl, .ref nc, .ref nF, .ref np, .ref ntr, .ref nb, .int mbestCost, .ref nso, .ref nsi, .ref nit, .ref nsh, .ref nsf, .ref nss, .ref nrc, .int (nI jr16172), .int 1, .int (nI jno), .int (fnw (32 + 6 * jno + 0)), .int (fnw (32 + 6 * jno + 2)), .int ip16173])), (nrc, .inl (G.2.1, 30, .inl gtrc6174))] H := hP
          have hD : va_D A [(nw, .inl (G.2.1, 1662, .inl fnw)), (nsh, .inl (G.2.1, 4, .inl fnsh)), (nsf, .inl (G.2.1, 4, .inl fnsf)), (h0, .inr (12, [.ref nw, .ref nk, .int mhasKept, .ref nt, .int mtaped, .ref nr, .int mrowMany, .int mroundOf, .int mroundFrom, .int mouts, .ref nm, .int mfromHour, .int mtoHour, .ref ns, .int mfrom, .int mto, .int msort, .int misFault, .int mdeep, .int mcoded, .int mlines, .ref nl, .ref nc, .ref nF, .ref np, .ref ntr, .ref nb, .int mbestCost, .ref nso, .ref nsi, .ref nit, .ref nsh, .ref nsf, .ref nss, .ref nrc, .int (nI jr16172), .int 1, .int (nI jno), .int (fnw (32 + 6 * jno + 0)), .int (fnw (32 + 6 * jno + 2)), .int ip16173])), (nrc, .inl (G.2.1, 30, .inl gtrc6174))] := hD
          obtain ⟨hr6170, w6175⟩ := hr6170
          refine lv_istore (lv' := [(7, .int r6170), (6, .int 0), (5, .int 1), (4, .int 1), (0, .ref h0), (1, .int (nI jt)), (2, .int 1), (3, .int x3)]) hx hb dX12_deal_208 hl (by decide) rfl (fun ls hl => ?_)
          refine lv_aload_n hx hb dX12_deal_210 rfl (lv_at hl 4 rfl) ?_
          refine gf_X12_380 hC rfl hK hP 3 rfl rfl dX12_deal_211 ?_
          refine lv_if_eq (tgt := 222) hx hb dX12_deal_214 (by decide) (fun c_214_6176 => ?_) (fun c_214_6176 => ?_)
          · refine lv_iload hx hb dX12_deal_222 (lv_at hl 0 rfl) ?_
            exact RI (v := r6170) hC hP hD hS [3, 0, 1, 2, 4] (jr16172, 1, nI jno, fnw (32 + 6 * jno + 0), fnw (32 + 6 * jno + 2), ip16173, gtrc6174) rfl rfl (by decide) (⟨trivial, by omega⟩) rfl dX12_deal_224
          · refine lv_bipush (v := (-15)) hx hb dX12_deal_217 (by decide) ?_
            refine lv_goto (tgt := 224) hx hb dX12_deal_219 (by decide) ?_
            exact RI (v := (-15)) hC hP hD hS [3, 0, 1, 2, 4] (jr16172, 1, nI jno, fnw (32 + 6 * jno + 0), fnw (32 + 6 * jno + 2), ip16173, gtrc6174) rfl rfl (by decide) (⟨trivial, by omega⟩) rfl dX12_deal_224
        · refine lv_aload_n hx hb dX12_deal_202 rfl (lv_at hl 3 rfl) ?_
          refine lv_iload_n hx hb dX12_deal_203 rfl (lv_at hl 5 rfl) ?_
          refine lv_iload_n hx hb dX12_deal_204 rfl (lv_at hl 6 rfl) ?_
          refine iV (wr := [(nw, .inl (G.2.1, 1662, .inl fnw)), (nsh, .inl (G.2.1, 4, .inl fnsh)), (nsf, .inl (G.2.1, 4, .inl fnsf))]) hC hK hl hP hD hS hA (m_dealt2 l G h0 x3 nw nk mhasKept nt mtaped nr mrowMany mroundOf mroundFrom mouts nm mfromHour mtoHour ns mfrom mto msort misFault mdeep mcoded mlines nl nc nF np ntr nb mbestCost nso nsi nit nsh nsf nss nrc 0 1 (nI jno) (fnw (32 + 6 * jno + 0)) (fnw (32 + 6 * jno + 2)) 0 fnrc (by omega) (by omega)) si_X12_372 [0, 4] [1, 2, 3] rfl rfl (by decide) rfl (by decide) (by decide) rfl rfl rfl rfl rfl (Nat.le_of_ble_eq_true rfl) ⟨Nat.le_of_ble_eq_true rfl, Nat.le_of_ble_eq_true rfl⟩ ⟨Nat.le_of_ble_eq_true rfl, Nat.le_of_ble_eq_true rfl⟩ dX12_deal_205 (fun r6177 u6178 H locs hr6177 hP hD hS => ?_)
          obtain ⟨jr16179, ip16180, gtrc6181⟩ := u6178
          try dsimp only at hr6177
          have hP : va_P G.1 vwCl [(nw, .inl (G.2.1, 1662, .inl fnw)), (nsh, .inl (G.2.1, 4, .inl fnsh)), (nsf, .inl (G.2.1, 4, .inl fnsf)), (h0, .inr (12, [.ref nw, .ref nk, .int mhasKept, .ref nt, .int mtaped, .ref nr, .int mrowMany, .int mroundOf, .int mroundFrom, .int mouts, .ref nm, .int mfromHour, .int mtoHour, .ref ns, .int mfrom, .int mto, .int msort, .int misFault, .int mdeep, .int mcoded, .int mlines, .ref nl, .ref nc, .ref nF, .ref np, .ref ntr, .ref nb, .int mbestCost, .ref nso, .ref nsi, .ref nit, .ref nsh, .ref nsf, .ref nss, .ref nrc, .int (nI jr16179), .int 1, .int (nI jno), .int (fnw (32 + 6 * jno + 0)), .int (fnw (32 + 6 * jno + 2)), .int ip16180])), (nrc, .inl (G.2.1, 30, .inl gtrc6181))] H := hP
          have hD : va_D A [(nw, .inl (G.2.1, 1662, .inl fnw)), (nsh, .inl (G.2.1, 4, .inl fnsh)), (nsf, .inl (G.2.1, 4, .inl fnsf)), (h0, .inr (12, [.ref nw, .ref nk, .int mhasKept, .ref nt, .int mtaped, .ref nr, .int mrowMany, .int mroundOf, .int mroundFrom, .int mouts, .ref nm, .int mfromHour, .int mtoHour, .ref ns, .int mfrom, .int mto, .int msort, .int misFault, .int mdeep, .int mcoded, .int mlines, .ref nl, .ref nc, .ref nF, .ref np, .ref ntr, .ref nb, .int mbestCost, .ref nso, .ref nsi, .ref nit, .ref nsh, .ref nsf, .ref nss, .ref nrc, .int (nI jr16179), .int 1, .int (nI jno), .int (fnw (32 + 6 * jno + 0)), .int (fnw (32 + 6 * jno + 2)), .int ip16180])), (nrc, .inl (G.2.1, 30, .inl gtrc6181))] := hD
          obtain ⟨hr6177, w6182⟩ := hr6177
          refine lv_istore (lv' := [(7, .int r6177), (6, .int 0), (5, .int 1), (4, .int 1), (0, .ref h0), (1, .int (nI jt)), (2, .int 2), (3, .int x3)]) hx hb dX12_deal_208 hl (by decide) rfl (fun ls hl => ?_)
          refine lv_aload_n hx hb dX12_deal_210 rfl (lv_at hl 4 rfl) ?_
          refine gf_X12_380 hC rfl hK hP 3 rfl rfl dX12_deal_211 ?_
          refine lv_if_eq (tgt := 222) hx hb dX12_deal_214 (by decide) (fun c_214_6183 => ?_) (fun c_214_6183 => ?_)
          · refine lv_iload hx hb dX12_deal_222 (lv_at hl 0 rfl) ?_
            exact RI (v := r6177) hC hP hD hS [3, 0, 1, 2, 4] (jr16179, 1, nI jno, fnw (32 + 6 * jno + 0), fnw (32 + 6 * jno + 2), ip16180, gtrc6181) rfl rfl (by decide) (⟨trivial, by omega⟩) rfl dX12_deal_224
          · refine lv_bipush (v := (-15)) hx hb dX12_deal_217 (by decide) ?_
            refine lv_goto (tgt := 224) hx hb dX12_deal_219 (by decide) ?_
            exact RI (v := (-15)) hC hP hD hS [3, 0, 1, 2, 4] (jr16179, 1, nI jno, fnw (32 + 6 * jno + 0), fnw (32 + 6 * jno + 2), ip16180, gtrc6181) rfl rfl (by decide) (⟨trivial, by omega⟩) rfl dX12_deal_224
        · refine lv_aload_n hx hb dX12_deal_202 rfl (lv_at hl 3 rfl) ?_
          refine lv_iload_n hx hb dX12_deal_203 rfl (lv_at hl 5 rfl) ?_
          refine lv_iload_n hx hb dX12_deal_204 rfl (lv_at hl 6 rfl) ?_
          refine iV (wr := [(nw, .inl (G.2.1, 1662, .inl fnw)), (nsh, .inl (G.2.1, 4, .inl fnsh)), (nsf, .inl (G.2.1, 4, .inl fnsf))]) hC hK hl hP hD hS hA (m_dealt3 l G h0 x3 nw nk mhasKept nt mtaped nr mrowMany mroundOf mroundFrom mouts nm mfromHour mtoHour ns mfrom mto msort misFault mdeep mcoded mlines nl nc nF np ntr nb mbestCost nso nsi nit nsh nsf nss nrc 0 1 (nI jno) (fnw (32 + 6 * jno + 0)) (fnw (32 + 6 * jno + 2)) 0 fnrc (by omega) (by omega)) si_X12_372 [0, 4] [1, 2, 3] rfl rfl (by decide) rfl (by decide) (by decide) rfl rfl rfl rfl rfl (Nat.le_of_ble_eq_true rfl) ⟨Nat.le_of_ble_eq_true rfl, Nat.le_of_ble_eq_true rfl⟩ ⟨Nat.le_of_ble_eq_true rfl, Nat.le_of_ble_eq_true rfl⟩ dX12_deal_205 (fun r6184 u6185 H locs hr6184 hP hD hS => ?_)
          obtain ⟨jr16186, ip16187, gtrc6188⟩ := u6185
          try dsimp only at hr6184
          have hP : va_P G.1 vwCl [(nw, .inl (G.2.1, 1662, .inl fnw)), (nsh, .inl (G.2.1, 4, .inl fnsh)), (nsf, .inl (G.2.1, 4, .inl fnsf)), (h0, .inr (12, [.ref nw, .ref nk, .int mhasKept, .ref nt, .int mtaped, .ref nr, .int mrowMany, .int mroundOf, .int mroundFrom, .int mouts, .ref nm, .int mfromHour, .int mtoHour, .ref ns, .int mfrom, .int mto, .int msort, .int misFault, .int mdeep, .int mcoded, .int mlines, .ref nl, .ref nc, .ref nF, .ref np, .ref ntr, .ref nb, .int mbestCost, .ref nso, .ref nsi, .ref nit, .ref nsh, .ref nsf, .ref nss, .ref nrc, .int (nI jr16186), .int 1, .int (nI jno), .int (fnw (32 + 6 * jno + 0)), .int (fnw (32 + 6 * jno + 2)), .int ip16187])), (nrc, .inl (G.2.1, 30, .inl gtrc6188))] H := hP
          have hD : va_D A [(nw, .inl (G.2.1, 1662, .inl fnw)), (nsh, .inl (G.2.1, 4, .inl fnsh)), (nsf, .inl (G.2.1, 4, .inl fnsf)), (h0, .inr (12, [.ref nw, .ref nk, .int mhasKept, .ref nt, .int mtaped, .ref nr, .int mrowMany, .int mroundOf, .int mroundFrom, .int mouts, .ref nm, .int mfromHour, .int mtoHour, .ref ns, .int mfrom, .int mto, .int msort, .int misFault, .int mdeep, .int mcoded, .int mlines, .ref nl, .ref nc, .ref nF, .ref np, .ref ntr, .ref nb, .int mbestCost, .ref nso, .ref nsi, .ref nit, .ref nsh, .ref nsf, .ref nss, .ref nrc, .int (nI jr16186), .int 1, .int (nI jno), .int (fnw (32 + 6 * jno + 0)), .int (fnw (32 + 6 * jno + 2)), .int ip16187])), (nrc, .inl (G.2.1, 30, .inl gtrc6188))] := hD
          obtain ⟨hr6184, w6189⟩ := hr6184
          refine lv_istore (lv' := [(7, .int r6184), (6, .int 0), (5, .int 1), (4, .int 1), (0, .ref h0), (1, .int (nI jt)), (2, .int 3), (3, .int x3)]) hx hb dX12_deal_208 hl (by decide) rfl (fun ls hl => ?_)
          refine lv_aload_n hx hb dX12_deal_210 rfl (lv_at hl 4 rfl) ?_
          refine gf_X12_380 hC rfl hK hP 3 rfl rfl dX12_deal_211 ?_
          refine lv_if_eq (tgt := 222) hx hb dX12_deal_214 (by decide) (fun c_214_6190 => ?_) (fun c_214_6190 => ?_)
          · refine lv_iload hx hb dX12_deal_222 (lv_at hl 0 rfl) ?_
            exact RI (v := r6184) hC hP hD hS [3, 0, 1, 2, 4] (jr16186, 1, nI jno, fnw (32 + 6 * jno + 0), fnw (32 + 6 * jno + 2), ip16187, gtrc6188) rfl rfl (by decide) (⟨trivial, by omega⟩) rfl dX12_deal_224
          · refine lv_bipush (v := (-15)) hx hb dX12_deal_217 (by decide) ?_
            refine lv_goto (tgt := 224) hx hb dX12_deal_219 (by decide) ?_
            exact RI (v := (-15)) hC hP hD hS [3, 0, 1, 2, 4] (jr16186, 1, nI jno, fnw (32 + 6 * jno + 0), fnw (32 + 6 * jno + 2), ip16187, gtrc6188) rfl rfl (by decide) (⟨trivial, by omega⟩) rfl dX12_deal_224
      · refine lv_istore (lv' := [(4, .int 2), (0, .ref h0), (1, .int (nI jt)), (2, .int x2), (3, .int x3)]) hx hb dX12_deal_28 hl (by decide) rfl (fun ls hl => ?_)
        refine lv_iload hx hb dX12_deal_30 (lv_at hl 0 rfl) ?_
        refine lv_if_ge (tgt := 37) hx hb dX12_deal_32 (by decide) (fun _ => ?_) (fun c9 => absurd (by decide) c9)
        refine lv_aload_n hx hb dX12_deal_37 rfl (lv_at hl 1 rfl) ?_
        refine lv_iload hx hb dX12_deal_38 (lv_at hl 0 rfl) ?_
        refine pf_X12_354 hC rfl hK hP hD hS 0 (ws' := [(h0, .inr (12, [.ref nw, .ref nk, .int mhasKept, .ref nt, .int mtaped, .ref nr, .int mrowMany, .int mroundOf, .int mroundFrom, .int mouts, .ref nm, .int mfromHour, .int mtoHour, .ref ns, .int mfrom, .int mto, .int msort, .int misFault, .int mdeep, .int mcoded, .int mlines, .ref nl, .ref nc, .ref nF, .ref np, .ref ntr, .ref nb, .int mbestCost, .ref nso, .ref nsi, .ref nit, .ref nsh, .ref nsf, .ref nss, .ref nrc, .int 0, .int 2, .int mnumber, .int mwhose, .int msize, .int misParted])), (nw, .inl (G.2.1, 1662, .inl fnw)), (nsh, .inl (G.2.1, 4, .inl fnsh)), (nsf, .inl (G.2.1, 4, .inl fnsf)), (nrc, .inl (G.2.1, 30, .inl fnrc))]) rfl (Nat.le_of_ble_eq_true rfl) rfl rfl rfl dX12_deal_40 (fun H locs hP hD hS => ?_)
        refine lv_aload_n hx hb dX12_deal_43 rfl (lv_at hl 1 rfl) ?_
        refine lv_aload_n hx hb dX12_deal_44 rfl (lv_at hl 1 rfl) ?_
        refine gf_X12_75 hC rfl hK hP 0 rfl rfl dX12_deal_45 ?_
        refine lv_iload_n hx hb dX12_deal_48 rfl (lv_at hl 2 rfl) ?_
        refine ald hC hK hP 3 rfl (vp_in_nI (by omega) (by omega)) (k := jt) (nI_clamp (by omega)) (v := fnsf jt) rfl dX12_deal_49 ?_
        refine lv_topi (fun x6191 ex6191 => ?_)
        obtain ⟨hko9, jno, hjno, ejno⟩ := a6155
        refine eqi (x1 := nI jno) (ex6191.trans ejno) ?_
        refine pf_X12_378 hC rfl hK hP hD hS 0 (ws' := [(h0, .inr (12, [.ref nw, .ref nk, .int mhasKept, .ref nt, .int mtaped, .ref nr, .int mrowMany, .int mroundOf, .int mroundFrom, .int mouts, .ref nm, .int mfromHour, .int mtoHour, .ref ns, .int mfrom, .int mto, .int msort, .int misFault, .int mdeep, .int mcoded, .int mlines, .ref nl, .ref nc, .ref nF, .ref np, .ref ntr, .ref nb, .int mbestCost, .ref nso, .ref nsi, .ref nit, .ref nsh, .ref nsf, .ref nss, .ref nrc, .int 0, .int 2, .int (nI jno), .int mwhose, .int msize, .int misParted])), (nw, .inl (G.2.1, 1662, .inl fnw)), (nsh, .inl (G.2.1, 4, .inl fnsh)), (nsf, .inl (G.2.1, 4, .inl fnsf)), (nrc, .inl (G.2.1, 30, .inl fnrc))]) rfl (Nat.le_of_ble_eq_true rfl) rfl rfl rfl dX12_deal_50 (fun H locs hP hD hS => ?_)
        refine lv_aload_n hx hb dX12_deal_53 rfl (lv_at hl 1 rfl) ?_
        refine gf_X12_72 hC rfl hK hP 0 rfl rfl dX12_deal_54 ?_
        refine lv_iload_n hx hb dX12_deal_57 rfl (lv_at hl 2 rfl) ?_
        refine ald hC hK hP 2 rfl (vp_in_nI (by omega) (by omega)) (k := jt) (nI_clamp (by omega)) (v := fnsh jt) rfl dX12_deal_58 ?_
        refine lv_topi (fun x6192 ex6192 => ?_)
        refine lv_iconst (v := 1) hx hb dX12_deal_59 (by decide) ?_
        refine lv_icmp_ne (tgt := 67) hx hb dX12_deal_60 (by decide) (fun c9 => absurd (ex6192.trans hko9) c9) (fun _ => ?_)
        refine lv_iconst (v := 1) hx hb dX12_deal_63 (by decide) ?_
        refine lv_goto (tgt := 68) hx hb dX12_deal_64 (by decide) ?_
        refine lv_istore (lv' := [(5, .int 1), (4, .int 2), (0, .ref h0), (1, .int (nI jt)), (2, .int x2), (3, .int x3)]) hx hb dX12_deal_68 hl (by decide) rfl (fun ls hl => ?_)
        refine lv_aload_n hx hb dX12_deal_70 rfl (lv_at hl 2 rfl) ?_
        refine gf_X12_72 hC rfl hK hP 0 rfl rfl dX12_deal_71 ?_
        refine lv_iload_n hx hb dX12_deal_74 rfl (lv_at hl 3 rfl) ?_
        refine ald hC hK hP 2 rfl (vp_in_nI (by omega) (by omega)) (k := jt) (nI_clamp (by omega)) (v := fnsh jt) rfl dX12_deal_75 ?_
        refine lv_topi (fun x6193 ex6193 => ?_)
        refine lv_iconst (v := 2) hx hb dX12_deal_76 (by decide) ?_
        refine lv_icmp_ne (tgt := 84) hx hb dX12_deal_77 (by decide) (fun _ => ?_) (fun c9 => absurd c9 (fun h9 => absurd (hko9.symm.trans ((ex6193.symm).trans h9)) (by decide)))
        refine lv_iconst (v := 0) hx hb dX12_deal_84 (by decide) ?_
        refine lv_istore (lv' := [(6, .int 0), (5, .int 1), (4, .int 2), (0, .ref h0), (1, .int (nI jt)), (2, .int x2), (3, .int x3)]) hx hb dX12_deal_85 hl (by decide) rfl (fun ls hl => ?_)
        refine lv_aload_n hx hb dX12_deal_87 rfl (lv_at hl 3 rfl) ?_
        refine lv_iload hx hb dX12_deal_88 (lv_at hl 1 rfl) ?_
        refine lv_if_eq (tgt := 105) hx hb dX12_deal_90 (by decide) (fun c9 => absurd c9 (by decide)) (fun _ => ?_)
        refine lv_aload_n hx hb dX12_deal_93 rfl (lv_at hl 3 rfl) ?_
        refine lv_aload_n hx hb dX12_deal_94 rfl (lv_at hl 3 rfl) ?_
        refine gf_X12_378 hC rfl hK hP 0 rfl rfl dX12_deal_95 ?_
        refine lv_iconst (v := 0) hx hb dX12_deal_98 (by decide) ?_
        refine pV hC hK hl hP hD (m_paper l G h0 jno 0 nw nk mhasKept nt mtaped nr mrowMany mroundOf mroundFrom mouts nm mfromHour mtoHour ns mfrom mto msort misFault mdeep mcoded mlines nl nc nF np ntr nb mbestCost nso nsi nit nsh nsf nss nrc 0 2 (nI jno) mwhose msize misParted fnw (by omega) (by omega)) si_X12_88 [0, 1] rfl rfl (by decide) rfl rfl rfl rfl rfl (Nat.le_of_ble_eq_true rfl) ⟨Nat.le_of_ble_eq_true rfl, Nat.le_of_ble_eq_true rfl⟩ ⟨by first | exact Nat.le_of_ble_eq_true rfl | exact Nat.zero_le _, by first | exact Nat.le_of_ble_eq_true rfl | exact Nat.zero_le _⟩ dX12_deal_99 (fun r6194 hr6194 => ?_)
        obtain rfl := hr6194
        refine lv_goto (tgt := 139) hx hb dX12_deal_102 (by decide) ?_
        refine pf_X12_375 hC rfl hK hP hD hS 0 (ws' := [(h0, .inr (12, [.ref nw, .ref nk, .int mhasKept, .ref nt, .int mtaped, .ref nr, .int mrowMany, .int mroundOf, .int mroundFrom, .int mouts, .ref nm, .int mfromHour, .int mtoHour, .ref ns, .int mfrom, .int mto, .int msort, .int misFault, .int mdeep, .int mcoded, .int mlines, .ref nl, .ref nc, .ref nF, .ref np, .ref ntr, .ref nb, .int mbestCost, .ref nso, .ref nsi, .ref nit, .ref nsh, .ref nsf, .ref nss, .ref nrc, .int 0, .int 2, .int (nI jno), .int (fnw (32 + 6 * jno + 0)), .int msize, .int misParted])), (nw, .inl (G.2.1, 1662, .inl fnw)), (nsh, .inl (G.2.1, 4, .inl fnsh)), (nsf, .inl (G.2.1, 4, .inl fnsf)), (nrc, .inl (G.2.1, 30, .inl fnrc))]) rfl (Nat.le_of_ble_eq_true rfl) rfl rfl rfl dX12_deal_139 (fun H locs hP hD hS => ?_)
        refine lv_aload_n hx hb dX12_deal_142 rfl (lv_at hl 3 rfl) ?_
        refine lv_iload hx hb dX12_deal_143 (lv_at hl 1 rfl) ?_
        refine lv_if_eq (tgt := 160) hx hb dX12_deal_145 (by decide) (fun c9 => absurd c9 (by decide)) (fun _ => ?_)
        refine lv_aload_n hx hb dX12_deal_148 rfl (lv_at hl 3 rfl) ?_
        refine lv_aload_n hx hb dX12_deal_149 rfl (lv_at hl 3 rfl) ?_
        refine gf_X12_378 hC rfl hK hP 0 rfl rfl dX12_deal_150 ?_
        refine lv_iconst (v := 2) hx hb dX12_deal_153 (by decide) ?_
        refine pV hC hK hl hP hD (m_paper l G h0 jno 2 nw nk mhasKept nt mtaped nr mrowMany mroundOf mroundFrom mouts nm mfromHour mtoHour ns mfrom mto msort misFault mdeep mcoded mlines nl nc nF np ntr nb mbestCost nso nsi nit nsh nsf nss nrc 0 2 (nI jno) (fnw (32 + 6 * jno + 0)) msize misParted fnw (by omega) (by omega)) si_X12_88 [0, 1] rfl rfl (by decide) rfl rfl rfl rfl rfl (Nat.le_of_ble_eq_true rfl) ⟨Nat.le_of_ble_eq_true rfl, Nat.le_of_ble_eq_true rfl⟩ ⟨by first | exact Nat.le_of_ble_eq_true rfl | exact Nat.zero_le _, by first | exact Nat.le_of_ble_eq_true rfl | exact Nat.zero_le _⟩ dX12_deal_154 (fun r6196 hr6196 => ?_)
        obtain rfl := hr6196
        refine lv_goto (tgt := 194) hx hb dX12_deal_157 (by decide) ?_
        refine pf_X12_369 hC rfl hK hP hD hS 0 (ws' := [(h0, .inr (12, [.ref nw, .ref nk, .int mhasKept, .ref nt, .int mtaped, .ref nr, .int mrowMany, .int mroundOf, .int mroundFrom, .int mouts, .ref nm, .int mfromHour, .int mtoHour, .ref ns, .int mfrom, .int mto, .int msort, .int misFault, .int mdeep, .int mcoded, .int mlines, .ref nl, .ref nc, .ref nF, .ref np, .ref ntr, .ref nb, .int mbestCost, .ref nso, .ref nsi, .ref nit, .ref nsh, .ref nsf, .ref nss, .ref nrc, .int 0, .int 2, .int (nI jno), .int (fnw (32 + 6 * jno + 0)), .int (fnw (32 + 6 * jno + 2)), .int misParted])), (nw, .inl (G.2.1, 1662, .inl fnw)), (nsh, .inl (G.2.1, 4, .inl fnsh)), (nsf, .inl (G.2.1, 4, .inl fnsf)), (nrc, .inl (G.2.1, 30, .inl fnrc))]) rfl (Nat.le_of_ble_eq_true rfl) rfl rfl rfl dX12_deal_194 (fun H locs hP hD hS => ?_)
        refine lv_aload_n hx hb dX12_deal_197 rfl (lv_at hl 3 rfl) ?_
        refine lv_iconst (v := 0) hx hb dX12_deal_198 (by decide) ?_
        refine pf_X12_380 hC rfl hK hP hD hS 0 (ws' := [(h0, .inr (12, [.ref nw, .ref nk, .int mhasKept, .ref nt, .int mtaped, .ref nr, .int mrowMany, .int mroundOf, .int mroundFrom, .int mouts, .ref nm, .int mfromHour, .int mtoHour, .ref ns, .int mfrom, .int mto, .int msort, .int misFault, .int mdeep, .int mcoded, .int mlines, .ref nl, .ref nc, .ref nF, .ref np, .ref ntr, .ref nb, .int mbestCost, .ref nso, .ref nsi, .ref nit, .ref nsh, .ref nsf, .ref nss, .ref nrc, .int 0, .int 2, .int (nI jno), .int (fnw (32 + 6 * jno + 0)), .int (fnw (32 + 6 * jno + 2)), .int 0])), (nw, .inl (G.2.1, 1662, .inl fnw)), (nsh, .inl (G.2.1, 4, .inl fnsh)), (nsf, .inl (G.2.1, 4, .inl fnsf)), (nrc, .inl (G.2.1, 30, .inl fnrc))]) rfl (Nat.le_of_ble_eq_true rfl) rfl (by decide +kernel) (by decide +kernel) dX12_deal_199 (fun H locs hP hD hS => ?_)
        obtain ⟨jdl, hjdl, rfl⟩ := Wi_nat (N := 3) (by decide) a6153
        rcases (show jdl = 0 ∨ jdl = 1 ∨ jdl = 2 ∨ jdl = 3 by omega) with rfl | rfl | rfl | rfl
        · refine lv_aload_n hx hb dX12_deal_202 rfl (lv_at hl 3 rfl) ?_
          refine lv_iload_n hx hb dX12_deal_203 rfl (lv_at hl 5 rfl) ?_
          refine lv_iload_n hx hb dX12_deal_204 rfl (lv_at hl 6 rfl) ?_
          refine iV (wr := [(nw, .inl (G.2.1, 1662, .inl fnw)), (nsh, .inl (G.2.1, 4, .inl fnsh)), (nsf, .inl (G.2.1, 4, .inl fnsf))]) hC hK hl hP hD hS hA (m_dealt0 l G h0 x3 nw nk mhasKept nt mtaped nr mrowMany mroundOf mroundFrom mouts nm mfromHour mtoHour ns mfrom mto msort misFault mdeep mcoded mlines nl nc nF np ntr nb mbestCost nso nsi nit nsh nsf nss nrc 0 2 (nI jno) (fnw (32 + 6 * jno + 0)) (fnw (32 + 6 * jno + 2)) 0 fnrc (by omega) (by omega)) si_X12_372 [0, 4] [1, 2, 3] rfl rfl (by decide) rfl (by decide) (by decide) rfl rfl rfl rfl rfl (Nat.le_of_ble_eq_true rfl) ⟨Nat.le_of_ble_eq_true rfl, Nat.le_of_ble_eq_true rfl⟩ ⟨Nat.le_of_ble_eq_true rfl, Nat.le_of_ble_eq_true rfl⟩ dX12_deal_205 (fun r6198 u6199 H locs hr6198 hP hD hS => ?_)
          obtain ⟨jr16200, ip16201, gtrc6202⟩ := u6199
          try dsimp only at hr6198
          have hP : va_P G.1 vwCl [(nw, .inl (G.2.1, 1662, .inl fnw)), (nsh, .inl (G.2.1, 4, .inl fnsh)), (nsf, .inl (G.2.1, 4, .inl fnsf)), (h0, .inr (12, [.ref nw, .ref nk, .int mhasKept, .ref nt, .int mtaped, .ref nr, .int mrowMany, .int mroundOf, .int mroundFrom, .int mouts, .ref nm, .int mfromHour, .int mtoHour, .ref ns, .int mfrom, .int mto, .int msort, .int misFault, .int mdeep, .int mcoded, .int mlines, .ref nl, .ref nc, .ref nF, .ref np, .ref ntr, .ref nb, .int mbestCost, .ref nso, .ref nsi, .ref nit, .ref nsh, .ref nsf, .ref nss, .ref nrc, .int (nI jr16200), .int 2, .int (nI jno), .int (fnw (32 + 6 * jno + 0)), .int (fnw (32 + 6 * jno + 2)), .int ip16201])), (nrc, .inl (G.2.1, 30, .inl gtrc6202))] H := hP
          have hD : va_D A [(nw, .inl (G.2.1, 1662, .inl fnw)), (nsh, .inl (G.2.1, 4, .inl fnsh)), (nsf, .inl (G.2.1, 4, .inl fnsf)), (h0, .inr (12, [.ref nw, .ref nk, .int mhasKept, .ref nt, .int mtaped, .ref nr, .int mrowMany, .int mroundOf, .int mroundFrom, .int mouts, .ref nm, .int mfromHour, .int mtoHour, .ref ns, .int mfrom, .int mto, .int msort, .int misFault, .int mdeep, .int mcoded, .int mlines, .ref nl, .ref nc, .ref nF, .ref np, .ref ntr, .ref nb, .int mbestCost, .ref nso, .ref nsi, .ref nit, .ref nsh, .ref nsf, .ref nss, .ref nrc, .int (nI jr16200), .int 2, .int (nI jno), .int (fnw (32 + 6 * jno + 0)), .int (fnw (32 + 6 * jno + 2)), .int ip16201])), (nrc, .inl (G.2.1, 30, .inl gtrc6202))] := hD
          obtain ⟨hr6198, w6203⟩ := hr6198
          refine lv_istore (lv' := [(7, .int r6198), (6, .int 0), (5, .int 1), (4, .int 2), (0, .ref h0), (1, .int (nI jt)), (2, .int 0), (3, .int x3)]) hx hb dX12_deal_208 hl (by decide) rfl (fun ls hl => ?_)
          refine lv_aload_n hx hb dX12_deal_210 rfl (lv_at hl 4 rfl) ?_
          refine gf_X12_380 hC rfl hK hP 3 rfl rfl dX12_deal_211 ?_
          refine lv_if_eq (tgt := 222) hx hb dX12_deal_214 (by decide) (fun c_214_6204 => ?_) (fun c_214_6204 => ?_)
          · refine lv_iload hx hb dX12_deal_222 (lv_at hl 0 rfl) ?_
            exact RI (v := r6198) hC hP hD hS [3, 0, 1, 2, 4] (jr16200, 2, nI jno, fnw (32 + 6 * jno + 0), fnw (32 + 6 * jno + 2), ip16201, gtrc6202) rfl rfl (by decide) (⟨trivial, by omega⟩) rfl dX12_deal_224
          · refine lv_bipush (v := (-15)) hx hb dX12_deal_217 (by decide) ?_
            refine lv_goto (tgt := 224) hx hb dX12_deal_219 (by decide) ?_
            exact RI (v := (-15)) hC hP hD hS [3, 0, 1, 2, 4] (jr16200, 2, nI jno, fnw (32 + 6 * jno + 0), fnw (32 + 6 * jno + 2), ip16201, gtrc6202) rfl rfl (by decide) (⟨trivial, by omega⟩) rfl dX12_deal_224
        · refine lv_aload_n hx hb dX12_deal_202 rfl (lv_at hl 3 rfl) ?_
          refine lv_iload_n hx hb dX12_deal_203 rfl (lv_at hl 5 rfl) ?_
          refine lv_iload_n hx hb dX12_deal_204 rfl (lv_at hl 6 rfl) ?_
          refine iV (wr := [(nw, .inl (G.2.1, 1662, .inl fnw)), (nsh, .inl (G.2.1, 4, .inl fnsh)), (nsf, .inl (G.2.1, 4, .inl fnsf))]) hC hK hl hP hD hS hA (m_dealt1 l G h0 x3 nw nk mhasKept nt mtaped nr mrowMany mroundOf mroundFrom mouts nm mfromHour mtoHour ns mfrom mto msort misFault mdeep mcoded mlines nl nc nF np ntr nb mbestCost nso nsi nit nsh nsf nss nrc 0 2 (nI jno) (fnw (32 + 6 * jno + 0)) (fnw (32 + 6 * jno + 2)) 0 fnrc (by omega) (by omega)) si_X12_372 [0, 4] [1, 2, 3] rfl rfl (by decide) rfl (by decide) (by decide) rfl rfl rfl rfl rfl (Nat.le_of_ble_eq_true rfl) ⟨Nat.le_of_ble_eq_true rfl, Nat.le_of_ble_eq_true rfl⟩ ⟨Nat.le_of_ble_eq_true rfl, Nat.le_of_ble_eq_true rfl⟩ dX12_deal_205 (fun r6205 u6206 H locs hr6205 hP hD hS => ?_)
          obtain ⟨jr16207, ip16208, gtrc6209⟩ := u6206
          try dsimp only at hr6205
          have hP : va_P G.1 vwCl [(nw, .inl (G.2.1, 1662, .inl fnw)), (nsh, .inl (G.2.1, 4, .inl fnsh)), (nsf, .inl (G.2.1, 4, .inl fnsf)), (h0, .inr (12, [.ref nw, .ref nk, .int mhasKept, .ref nt, .int mtaped, .ref nr, .int mrowMany, .int mroundOf, .int mroundFrom, .int mouts, .ref nm, .int mfromHour, .int mtoHour, .ref ns, .int mfrom, .int mto, .int msort, .int misFault, .int mdeep, .int mcoded, .int mlines, .ref nl, .ref nc, .ref nF, .ref np, .ref ntr, .ref nb, .int mbestCost, .ref nso, .ref nsi, .ref nit, .ref nsh, .ref nsf, .ref nss, .ref nrc, .int (nI jr16207), .int 2, .int (nI jno), .int (fnw (32 + 6 * jno + 0)), .int (fnw (32 + 6 * jno + 2)), .int ip16208])), (nrc, .inl (G.2.1, 30, .inl gtrc6209))] H := hP
          have hD : va_D A [(nw, .inl (G.2.1, 1662, .inl fnw)), (nsh, .inl (G.2.1, 4, .inl fnsh)), (nsf, .inl (G.2.1, 4, .inl fnsf)), (h0, .inr (12, [.ref nw, .ref nk, .int mhasKept, .ref nt, .int mtaped, .ref nr, .int mrowMany, .int mroundOf, .int mroundFrom, .int mouts, .ref nm, .int mfromHour, .int mtoHour, .ref ns, .int mfrom, .int mto, .int msort, .int misFault, .int mdeep, .int mcoded, .int mlines, .ref nl, .ref nc, .ref nF, .ref np, .ref ntr, .ref nb, .int mbestCost, .ref nso, .ref nsi, .ref nit, .ref nsh, .ref nsf, .ref nss, .ref nrc, .int (nI jr16207), .int 2, .int (nI jno), .int (fnw (32 + 6 * jno + 0)), .int (fnw (32 + 6 * jno + 2)), .int ip16208])), (nrc, .inl (G.2.1, 30, .inl gtrc6209))] := hD
          obtain ⟨hr6205, w6210⟩ := hr6205
          refine lv_istore (lv' := [(7, .int r6205), (6, .int 0), (5, .int 1), (4, .int 2), (0, .ref h0), (1, .int (nI jt)), (2, .int 1), (3, .int x3)]) hx hb dX12_deal_208 hl (by decide) rfl (fun ls hl => ?_)
          refine lv_aload_n hx hb dX12_deal_210 rfl (lv_at hl 4 rfl) ?_
          refine gf_X12_380 hC rfl hK hP 3 rfl rfl dX12_deal_211 ?_
          refine lv_if_eq (tgt := 222) hx hb dX12_deal_214 (by decide) (fun c_214_6211 => ?_) (fun c_214_6211 => ?_)
          · refine lv_iload hx hb dX12_deal_222 (lv_at hl 0 rfl) ?_
            exact RI (v := r6205) hC hP hD hS [3, 0, 1, 2, 4] (jr16207, 2, nI jno, fnw (32 + 6 * jno + 0), fnw (32 + 6 * jno + 2), ip16208, gtrc6209) rfl rfl (by decide) (⟨trivial, by omega⟩) rfl dX12_deal_224
          · refine lv_bipush (v := (-15)) hx hb dX12_deal_217 (by decide) ?_
            refine lv_goto (tgt := 224) hx hb dX12_deal_219 (by decide) ?_
            exact RI (v := (-15)) hC hP hD hS [3, 0, 1, 2, 4] (jr16207, 2, nI jno, fnw (32 + 6 * jno + 0), fnw (32 + 6 * jno + 2), ip16208, gtrc6209) rfl rfl (by decide) (⟨trivial, by omega⟩) rfl dX12_deal_224
        · refine lv_aload_n hx hb dX12_deal_202 rfl (lv_at hl 3 rfl) ?_
          refine lv_iload_n hx hb dX12_deal_203 rfl (lv_at hl 5 rfl) ?_
          refine lv_iload_n hx hb dX12_deal_204 rfl (lv_at hl 6 rfl) ?_
          refine iV (wr := [(nw, .inl (G.2.1, 1662, .inl fnw)), (nsh, .inl (G.2.1, 4, .inl fnsh)), (nsf, .inl (G.2.1, 4, .inl fnsf))]) hC hK hl hP hD hS hA (m_dealt2 l G h0 x3 nw nk mhasKept nt mtaped nr mrowMany mroundOf mroundFrom mouts nm mfromHour mtoHour ns mfrom mto msort misFault mdeep mcoded mlines nl nc nF np ntr nb mbestCost nso nsi nit nsh nsf nss nrc 0 2 (nI jno) (fnw (32 + 6 * jno + 0)) (fnw (32 + 6 * jno + 2)) 0 fnrc (by omega) (by omega)) si_X12_372 [0, 4] [1, 2, 3] rfl rfl (by decide) rfl (by decide) (by decide) rfl rfl rfl rfl rfl (Nat.le_of_ble_eq_true rfl) ⟨Nat.le_of_ble_eq_true rfl, Nat.le_of_ble_eq_true rfl⟩ ⟨Nat.le_of_ble_eq_true rfl, Nat.le_of_ble_eq_true rfl⟩ dX12_deal_205 (fun r6212 u6213 H locs hr6212 hP hD hS => ?_)
          obtain ⟨jr16214, ip16215, gtrc6216⟩ := u6213
          try dsimp only at hr6212
          have hP : va_P G.1 vwCl [(nw, .inl (G.2.1, 1662, .inl fnw)), (nsh, .inl (G.2.1, 4, .inl fnsh)), (nsf, .inl (G.2.1, 4, .inl fnsf)), (h0, .inr (12, [.ref nw, .ref nk, .int mhasKept, .ref nt, .int mtaped, .ref nr, .int mrowMany, .int mroundOf, .int mroundFrom, .int mouts, .ref nm, .int mfromHour, .int mtoHour, .ref ns, .int mfrom, .int mto, .int msort, .int misFault, .int mdeep, .int mcoded, .int mlines, .ref nl, .ref nc, .ref nF, .ref np, .ref ntr, .ref nb, .int mbestCost, .ref nso, .ref nsi, .ref nit, .ref nsh, .ref nsf, .ref nss, .ref nrc, .int (nI jr16214), .int 2, .int (nI jno), .int (fnw (32 + 6 * jno + 0)), .int (fnw (32 + 6 * jno + 2)), .int ip16215])), (nrc, .inl (G.2.1, 30, .inl gtrc6216))] H := hP
          have hD : va_D A [(nw, .inl (G.2.1, 1662, .inl fnw)), (nsh, .inl (G.2.1, 4, .inl fnsh)), (nsf, .inl (G.2.1, 4, .inl fnsf)), (h0, .inr (12, [.ref nw, .ref nk, .int mhasKept, .ref nt, .int mtaped, .ref nr, .int mrowMany, .int mroundOf, .int mroundFrom, .int mouts, .ref nm, .int mfromHour, .int mtoHour, .ref ns, .int mfrom, .int mto, .int msort, .int misFault, .int mdeep, .int mcoded, .int mlines, .ref nl, .ref nc, .ref nF, .ref np, .ref ntr, .ref nb, .int mbestCost, .ref nso, .ref nsi, .ref nit, .ref nsh, .ref nsf, .ref nss, .ref nrc, .int (nI jr16214), .int 2, .int (nI jno), .int (fnw (32 + 6 * jno + 0)), .int (fnw (32 + 6 * jno + 2)), .int ip16215])), (nrc, .inl (G.2.1, 30, .inl gtrc6216))] := hD
          obtain ⟨hr6212, w6217⟩ := hr6212
          refine lv_istore (lv' := [(7, .int r6212), (6, .int 0), (5, .int 1), (4, .int 2), (0, .ref h0), (1, .int (nI jt)), (2, .int 2), (3, .int x3)]) hx hb dX12_deal_208 hl (by decide) rfl (fun ls hl => ?_)
          refine lv_aload_n hx hb dX12_deal_210 rfl (lv_at hl 4 rfl) ?_
          refine gf_X12_380 hC rfl hK hP 3 rfl rfl dX12_deal_211 ?_
          refine lv_if_eq (tgt := 222) hx hb dX12_deal_214 (by decide) (fun c_214_6218 => ?_) (fun c_214_6218 => ?_)
          · refine lv_iload hx hb dX12_deal_222 (lv_at hl 0 rfl) ?_
            exact RI (v := r6212) hC hP hD hS [3, 0, 1, 2, 4] (jr16214, 2, nI jno, fnw (32 + 6 * jno + 0), fnw (32 + 6 * jno + 2), ip16215, gtrc6216) rfl rfl (by decide) (⟨trivial, by omega⟩) rfl dX12_deal_224
          · refine lv_bipush (v := (-15)) hx hb dX12_deal_217 (by decide) ?_
            refine lv_goto (tgt := 224) hx hb dX12_deal_219 (by decide) ?_
            exact RI (v := (-15)) hC hP hD hS [3, 0, 1, 2, 4] (jr16214, 2, nI jno, fnw (32 + 6 * jno + 0), fnw (32 + 6 * jno + 2), ip16215, gtrc6216) rfl rfl (by decide) (⟨trivial, by omega⟩) rfl dX12_deal_224
        · refine lv_aload_n hx hb dX12_deal_202 rfl (lv_at hl 3 rfl) ?_
          refine lv_iload_n hx hb dX12_deal_203 rfl (lv_at hl 5 rfl) ?_
          refine lv_iload_n hx hb dX12_deal_204 rfl (lv_at hl 6 rfl) ?_
          refine iV (wr := [(nw, .inl (G.2.1, 1662, .inl fnw)), (nsh, .inl (G.2.1, 4, .inl fnsh)), (nsf, .inl (G.2.1, 4, .inl fnsf))]) hC hK hl hP hD hS hA (m_dealt3 l G h0 x3 nw nk mhasKept nt mtaped nr mrowMany mroundOf mroundFrom mouts nm mfromHour mtoHour ns mfrom mto msort misFault mdeep mcoded mlines nl nc nF np ntr nb mbestCost nso nsi nit nsh nsf nss nrc 0 2 (nI jno) (fnw (32 + 6 * jno + 0)) (fnw (32 + 6 * jno + 2)) 0 fnrc (by omega) (by omega)) si_X12_372 [0, 4] [1, 2, 3] rfl rfl (by decide) rfl (by decide) (by decide) rfl rfl rfl rfl rfl (Nat.le_of_ble_eq_true rfl) ⟨Nat.le_of_ble_eq_true rfl, Nat.le_of_ble_eq_true rfl⟩ ⟨Nat.le_of_ble_eq_true rfl, Nat.le_of_ble_eq_true rfl⟩ dX12_deal_205 (fun r6219 u6220 H locs hr6219 hP hD hS => ?_)
          obtain ⟨jr16221, ip16222, gtrc6223⟩ := u6220
          try dsimp only at hr6219
          have hP : va_P G.1 vwCl [(nw, .inl (G.2.1, 1662, .inl fnw)), (nsh, .inl (G.2.1, 4, .inl fnsh)), (nsf, .inl (G.2.1, 4, .inl fnsf)), (h0, .inr (12, [.ref nw, .ref nk, .int mhasKept, .ref nt, .int mtaped, .ref nr, .int mrowMany, .int mroundOf, .int mroundFrom, .int mouts, .ref nm, .int mfromHour, .int mtoHour, .ref ns, .int mfrom, .int mto, .int msort, .int misFault, .int mdeep, .int mcoded, .int mlines, .ref nl, .ref nc, .ref nF, .ref np, .ref ntr, .ref nb, .int mbestCost, .ref nso, .ref nsi, .ref nit, .ref nsh, .ref nsf, .ref nss, .ref nrc, .int (nI jr16221), .int 2, .int (nI jno), .int (fnw (32 + 6 * jno + 0)), .int (fnw (32 + 6 * jno + 2)), .int ip16222])), (nrc, .inl (G.2.1, 30, .inl gtrc6223))] H := hP
          have hD : va_D A [(nw, .inl (G.2.1, 1662, .inl fnw)), (nsh, .inl (G.2.1, 4, .inl fnsh)), (nsf, .inl (G.2.1, 4, .inl fnsf)), (h0, .inr (12, [.ref nw, .ref nk, .int mhasKept, .ref nt, .int mtaped, .ref nr, .int mrowMany, .int mroundOf, .int mroundFrom, .int mouts, .ref nm, .int mfromHour, .int mtoHour, .ref ns, .int mfrom, .int mto, .int msort, .int misFault, .int mdeep, .int mcoded, .int mlines, .ref nl, .ref nc, .ref nF, .ref np, .ref ntr, .ref nb, .int mbestCost, .ref nso, .ref nsi, .ref nit, .ref nsh, .ref nsf, .ref nss, .ref nrc, .int (nI jr16221), .int 2, .int (nI jno), .int (fnw (32 + 6 * jno + 0)), .int (fnw (32 + 6 * jno + 2)), .int ip16222])), (nrc, .inl (G.2.1, 30, .inl gtrc6223))] := hD
          obtain ⟨hr6219, w6224⟩ := hr6219
          refine lv_istore (lv' := [(7, .int r6219), (6, .int 0), (5, .int 1), (4, .int 2), (0, .ref h0), (1, .int (nI jt)), (2, .int 3), (3, .int x3)]) hx hb dX12_deal_208 hl (by decide) rfl (fun ls hl => ?_)
          refine lv_aload_n hx hb dX12_deal_210 rfl (lv_at hl 4 rfl) ?_
          refine gf_X12_380 hC rfl hK hP 3 rfl rfl dX12_deal_211 ?_
          refine lv_if_eq (tgt := 222) hx hb dX12_deal_214 (by decide) (fun c_214_6225 => ?_) (fun c_214_6225 => ?_)
          · refine lv_iload hx hb dX12_deal_222 (lv_at hl 0 rfl) ?_
            exact RI (v := r6219) hC hP hD hS [3, 0, 1, 2, 4] (jr16221, 2, nI jno, fnw (32 + 6 * jno + 0), fnw (32 + 6 * jno + 2), ip16222, gtrc6223) rfl rfl (by decide) (⟨trivial, by omega⟩) rfl dX12_deal_224
          · refine lv_bipush (v := (-15)) hx hb dX12_deal_217 (by decide) ?_
            refine lv_goto (tgt := 224) hx hb dX12_deal_219 (by decide) ?_
            exact RI (v := (-15)) hC hP hD hS [3, 0, 1, 2, 4] (jr16221, 2, nI jno, fnw (32 + 6 * jno + 0), fnw (32 + 6 * jno + 2), ip16222, gtrc6223) rfl rfl (by decide) (⟨trivial, by omega⟩) rfl dX12_deal_224
      · refine lv_istore (lv' := [(4, .int 3), (0, .ref h0), (1, .int (nI jt)), (2, .int x2), (3, .int x3)]) hx hb dX12_deal_28 hl (by decide) rfl (fun ls hl => ?_)
        refine lv_iload hx hb dX12_deal_30 (lv_at hl 0 rfl) ?_
        refine lv_if_ge (tgt := 37) hx hb dX12_deal_32 (by decide) (fun _ => ?_) (fun c9 => absurd (by decide) c9)
        refine lv_aload_n hx hb dX12_deal_37 rfl (lv_at hl 1 rfl) ?_
        refine lv_iload hx hb dX12_deal_38 (lv_at hl 0 rfl) ?_
        refine pf_X12_354 hC rfl hK hP hD hS 0 (ws' := [(h0, .inr (12, [.ref nw, .ref nk, .int mhasKept, .ref nt, .int mtaped, .ref nr, .int mrowMany, .int mroundOf, .int mroundFrom, .int mouts, .ref nm, .int mfromHour, .int mtoHour, .ref ns, .int mfrom, .int mto, .int msort, .int misFault, .int mdeep, .int mcoded, .int mlines, .ref nl, .ref nc, .ref nF, .ref np, .ref ntr, .ref nb, .int mbestCost, .ref nso, .ref nsi, .ref nit, .ref nsh, .ref nsf, .ref nss, .ref nrc, .int 0, .int 3, .int mnumber, .int mwhose, .int msize, .int misParted])), (nw, .inl (G.2.1, 1662, .inl fnw)), (nsh, .inl (G.2.1, 4, .inl fnsh)), (nsf, .inl (G.2.1, 4, .inl fnsf)), (nrc, .inl (G.2.1, 30, .inl fnrc))]) rfl (Nat.le_of_ble_eq_true rfl) rfl rfl rfl dX12_deal_40 (fun H locs hP hD hS => ?_)
        refine lv_aload_n hx hb dX12_deal_43 rfl (lv_at hl 1 rfl) ?_
        refine lv_aload_n hx hb dX12_deal_44 rfl (lv_at hl 1 rfl) ?_
        refine gf_X12_75 hC rfl hK hP 0 rfl rfl dX12_deal_45 ?_
        refine lv_iload_n hx hb dX12_deal_48 rfl (lv_at hl 2 rfl) ?_
        refine ald hC hK hP 3 rfl (vp_in_nI (by omega) (by omega)) (k := jt) (nI_clamp (by omega)) (v := fnsf jt) rfl dX12_deal_49 ?_
        refine lv_topi (fun x6226 ex6226 => ?_)
        obtain ⟨hko9, jno, hjno, ejno⟩ := a6155
        refine eqi (x1 := nI jno) (ex6226.trans ejno) ?_
        refine pf_X12_378 hC rfl hK hP hD hS 0 (ws' := [(h0, .inr (12, [.ref nw, .ref nk, .int mhasKept, .ref nt, .int mtaped, .ref nr, .int mrowMany, .int mroundOf, .int mroundFrom, .int mouts, .ref nm, .int mfromHour, .int mtoHour, .ref ns, .int mfrom, .int mto, .int msort, .int misFault, .int mdeep, .int mcoded, .int mlines, .ref nl, .ref nc, .ref nF, .ref np, .ref ntr, .ref nb, .int mbestCost, .ref nso, .ref nsi, .ref nit, .ref nsh, .ref nsf, .ref nss, .ref nrc, .int 0, .int 3, .int (nI jno), .int mwhose, .int msize, .int misParted])), (nw, .inl (G.2.1, 1662, .inl fnw)), (nsh, .inl (G.2.1, 4, .inl fnsh)), (nsf, .inl (G.2.1, 4, .inl fnsf)), (nrc, .inl (G.2.1, 30, .inl fnrc))]) rfl (Nat.le_of_ble_eq_true rfl) rfl rfl rfl dX12_deal_50 (fun H locs hP hD hS => ?_)
        refine lv_aload_n hx hb dX12_deal_53 rfl (lv_at hl 1 rfl) ?_
        refine gf_X12_72 hC rfl hK hP 0 rfl rfl dX12_deal_54 ?_
        refine lv_iload_n hx hb dX12_deal_57 rfl (lv_at hl 2 rfl) ?_
        refine ald hC hK hP 2 rfl (vp_in_nI (by omega) (by omega)) (k := jt) (nI_clamp (by omega)) (v := fnsh jt) rfl dX12_deal_58 ?_
        refine lv_topi (fun x6227 ex6227 => ?_)
        refine lv_iconst (v := 1) hx hb dX12_deal_59 (by decide) ?_
        refine lv_icmp_ne (tgt := 67) hx hb dX12_deal_60 (by decide) (fun c9 => absurd (ex6227.trans hko9) c9) (fun _ => ?_)
        refine lv_iconst (v := 1) hx hb dX12_deal_63 (by decide) ?_
        refine lv_goto (tgt := 68) hx hb dX12_deal_64 (by decide) ?_
        refine lv_istore (lv' := [(5, .int 1), (4, .int 3), (0, .ref h0), (1, .int (nI jt)), (2, .int x2), (3, .int x3)]) hx hb dX12_deal_68 hl (by decide) rfl (fun ls hl => ?_)
        refine lv_aload_n hx hb dX12_deal_70 rfl (lv_at hl 2 rfl) ?_
        refine gf_X12_72 hC rfl hK hP 0 rfl rfl dX12_deal_71 ?_
        refine lv_iload_n hx hb dX12_deal_74 rfl (lv_at hl 3 rfl) ?_
        refine ald hC hK hP 2 rfl (vp_in_nI (by omega) (by omega)) (k := jt) (nI_clamp (by omega)) (v := fnsh jt) rfl dX12_deal_75 ?_
        refine lv_topi (fun x6228 ex6228 => ?_)
        refine lv_iconst (v := 2) hx hb dX12_deal_76 (by decide) ?_
        refine lv_icmp_ne (tgt := 84) hx hb dX12_deal_77 (by decide) (fun _ => ?_) (fun c9 => absurd c9 (fun h9 => absurd (hko9.symm.trans ((ex6228.symm).trans h9)) (by decide)))
        refine lv_iconst (v := 0) hx hb dX12_deal_84 (by decide) ?_
        refine lv_istore (lv' := [(6, .int 0), (5, .int 1), (4, .int 3), (0, .ref h0), (1, .int (nI jt)), (2, .int x2), (3, .int x3)]) hx hb dX12_deal_85 hl (by decide) rfl (fun ls hl => ?_)
        refine lv_aload_n hx hb dX12_deal_87 rfl (lv_at hl 3 rfl) ?_
        refine lv_iload hx hb dX12_deal_88 (lv_at hl 1 rfl) ?_
        refine lv_if_eq (tgt := 105) hx hb dX12_deal_90 (by decide) (fun c9 => absurd c9 (by decide)) (fun _ => ?_)
        refine lv_aload_n hx hb dX12_deal_93 rfl (lv_at hl 3 rfl) ?_
        refine lv_aload_n hx hb dX12_deal_94 rfl (lv_at hl 3 rfl) ?_
        refine gf_X12_378 hC rfl hK hP 0 rfl rfl dX12_deal_95 ?_
        refine lv_iconst (v := 0) hx hb dX12_deal_98 (by decide) ?_
        refine pV hC hK hl hP hD (m_paper l G h0 jno 0 nw nk mhasKept nt mtaped nr mrowMany mroundOf mroundFrom mouts nm mfromHour mtoHour ns mfrom mto msort misFault mdeep mcoded mlines nl nc nF np ntr nb mbestCost nso nsi nit nsh nsf nss nrc 0 3 (nI jno) mwhose msize misParted fnw (by omega) (by omega)) si_X12_88 [0, 1] rfl rfl (by decide) rfl rfl rfl rfl rfl (Nat.le_of_ble_eq_true rfl) ⟨Nat.le_of_ble_eq_true rfl, Nat.le_of_ble_eq_true rfl⟩ ⟨by first | exact Nat.le_of_ble_eq_true rfl | exact Nat.zero_le _, by first | exact Nat.le_of_ble_eq_true rfl | exact Nat.zero_le _⟩ dX12_deal_99 (fun r6229 hr6229 => ?_)
        obtain rfl := hr6229
        refine lv_goto (tgt := 139) hx hb dX12_deal_102 (by decide) ?_
        refine pf_X12_375 hC rfl hK hP hD hS 0 (ws' := [(h0, .inr (12, [.ref nw, .ref nk, .int mhasKept, .ref nt, .int mtaped, .ref nr, .int mrowMany, .int mroundOf, .int mroundFrom, .int mouts, .ref nm, .int mfromHour, .int mtoHour, .ref ns, .int mfrom, .int mto, .int msort, .int misFault, .int mdeep, .int mcoded, .int mlines, .ref nl, .ref nc, .ref nF, .ref np, .ref ntr, .ref nb, .int mbestCost, .ref nso, .ref nsi, .ref nit, .ref nsh, .ref nsf, .ref nss, .ref nrc, .int 0, .int 3, .int (nI jno), .int (fnw (32 + 6 * jno + 0)), .int msize, .int misParted])), (nw, .inl (G.2.1, 1662, .inl fnw)), (nsh, .inl (G.2.1, 4, .inl fnsh)), (nsf, .inl (G.2.1, 4, .inl fnsf)), (nrc, .inl (G.2.1, 30, .inl fnrc))]) rfl (Nat.le_of_ble_eq_true rfl) rfl rfl rfl dX12_deal_139 (fun H locs hP hD hS => ?_)
        refine lv_aload_n hx hb dX12_deal_142 rfl (lv_at hl 3 rfl) ?_
        refine lv_iload hx hb dX12_deal_143 (lv_at hl 1 rfl) ?_
        refine lv_if_eq (tgt := 160) hx hb dX12_deal_145 (by decide) (fun c9 => absurd c9 (by decide)) (fun _ => ?_)
        refine lv_aload_n hx hb dX12_deal_148 rfl (lv_at hl 3 rfl) ?_
        refine lv_aload_n hx hb dX12_deal_149 rfl (lv_at hl 3 rfl) ?_
        refine gf_X12_378 hC rfl hK hP 0 rfl rfl dX12_deal_150 ?_
        refine lv_iconst (v := 2) hx hb dX12_deal_153 (by decide) ?_
        refine pV hC hK hl hP hD (m_paper l G h0 jno 2 nw nk mhasKept nt mtaped nr mrowMany mroundOf mroundFrom mouts nm mfromHour mtoHour ns mfrom mto msort misFault mdeep mcoded mlines nl nc nF np ntr nb mbestCost nso nsi nit nsh nsf nss nrc 0 3 (nI jno) (fnw (32 + 6 * jno + 0)) msize misParted fnw (by omega) (by omega)) si_X12_88 [0, 1] rfl rfl (by decide) rfl rfl rfl rfl rfl (Nat.le_of_ble_eq_true rfl) ⟨Nat.le_of_ble_eq_true rfl, Nat.le_of_ble_eq_true rfl⟩ ⟨by first | exact Nat.le_of_ble_eq_true rfl | exact Nat.zero_le _, by first | exact Nat.le_of_ble_eq_true rfl | exact Nat.zero_le _⟩ dX12_deal_154 (fun r6231 hr6231 => ?_)
        obtain rfl := hr6231
        refine lv_goto (tgt := 194) hx hb dX12_deal_157 (by decide) ?_
        refine pf_X12_369 hC rfl hK hP hD hS 0 (ws' := [(h0, .inr (12, [.ref nw, .ref nk, .int mhasKept, .ref nt, .int mtaped, .ref nr, .int mrowMany, .int mroundOf, .int mroundFrom, .int mouts, .ref nm, .int mfromHour, .int mtoHour, .ref ns, .int mfrom, .int mto, .int msort, .int misFault, .int mdeep, .int mcoded, .int mlines, .ref nl, .ref nc, .ref nF, .ref np, .ref ntr, .ref nb, .int mbestCost, .ref nso, .ref nsi, .ref nit, .ref nsh, .ref nsf, .ref nss, .ref nrc, .int 0, .int 3, .int (nI jno), .int (fnw (32 + 6 * jno + 0)), .int (fnw (32 + 6 * jno + 2)), .int misParted])), (nw, .inl (G.2.1, 1662, .inl fnw)), (nsh, .inl (G.2.1, 4, .inl fnsh)), (nsf, .inl (G.2.1, 4, .inl fnsf)), (nrc, .inl (G.2.1, 30, .inl fnrc))]) rfl (Nat.le_of_ble_eq_true rfl) rfl rfl rfl dX12_deal_194 (fun H locs hP hD hS => ?_)
        refine lv_aload_n hx hb dX12_deal_197 rfl (lv_at hl 3 rfl) ?_
        refine lv_iconst (v := 0) hx hb dX12_deal_198 (by decide) ?_
        refine pf_X12_380 hC rfl hK hP hD hS 0 (ws' := [(h0, .inr (12, [.ref nw, .ref nk, .int mhasKept, .ref nt, .int mtaped, .ref nr, .int mrowMany, .int mroundOf, .int mroundFrom, .int mouts, .ref nm, .int mfromHour, .int mtoHour, .ref ns, .int mfrom, .int mto, .int msort, .int misFault, .int mdeep, .int mcoded, .int mlines, .ref nl, .ref nc, .ref nF, .ref np, .ref ntr, .ref nb, .int mbestCost, .ref nso, .ref nsi, .ref nit, .ref nsh, .ref nsf, .ref nss, .ref nrc, .int 0, .int 3, .int (nI jno), .int (fnw (32 + 6 * jno + 0)), .int (fnw (32 + 6 * jno + 2)), .int 0])), (nw, .inl (G.2.1, 1662, .inl fnw)), (nsh, .inl (G.2.1, 4, .inl fnsh)), (nsf, .inl (G.2.1, 4, .inl fnsf)), (nrc, .inl (G.2.1, 30, .inl fnrc))]) rfl (Nat.le_of_ble_eq_true rfl) rfl (by decide +kernel) (by decide +kernel) dX12_deal_199 (fun H locs hP hD hS => ?_)
        obtain ⟨jdl, hjdl, rfl⟩ := Wi_nat (N := 3) (by decide) a6153
        rcases (show jdl = 0 ∨ jdl = 1 ∨ jdl = 2 ∨ jdl = 3 by omega) with rfl | rfl | rfl | rfl
        · refine lv_aload_n hx hb dX12_deal_202 rfl (lv_at hl 3 rfl) ?_
          refine lv_iload_n hx hb dX12_deal_203 rfl (lv_at hl 5 rfl) ?_
          refine lv_iload_n hx hb dX12_deal_204 rfl (lv_at hl 6 rfl) ?_
          refine iV (wr := [(nw, .inl (G.2.1, 1662, .inl fnw)), (nsh, .inl (G.2.1, 4, .inl fnsh)), (nsf, .inl (G.2.1, 4, .inl fnsf))]) hC hK hl hP hD hS hA (m_dealt0 l G h0 x3 nw nk mhasKept nt mtaped nr mrowMany mroundOf mroundFrom mouts nm mfromHour mtoHour ns mfrom mto msort misFault mdeep mcoded mlines nl nc nF np ntr nb mbestCost nso nsi nit nsh nsf nss nrc 0 3 (nI jno) (fnw (32 + 6 * jno + 0)) (fnw (32 + 6 * jno + 2)) 0 fnrc (by omega) (by omega)) si_X12_372 [0, 4] [1, 2, 3] rfl rfl (by decide) rfl (by decide) (by decide) rfl rfl rfl rfl rfl (Nat.le_of_ble_eq_true rfl) ⟨Nat.le_of_ble_eq_true rfl, Nat.le_of_ble_eq_true rfl⟩ ⟨Nat.le_of_ble_eq_true rfl, Nat.le_of_ble_eq_true rfl⟩ dX12_deal_205 (fun r6233 u6234 H locs hr6233 hP hD hS => ?_)
          obtain ⟨jr16235, ip16236, gtrc6237⟩ := u6234
          try dsimp only at hr6233
          have hP : va_P G.1 vwCl [(nw, .inl (G.2.1, 1662, .inl fnw)), (nsh, .inl (G.2.1, 4, .inl fnsh)), (nsf, .inl (G.2.1, 4, .inl fnsf)), (h0, .inr (12, [.ref nw, .ref nk, .int mhasKept, .ref nt, .int mtaped, .ref nr, .int mrowMany, .int mroundOf, .int mroundFrom, .int mouts, .ref nm, .int mfromHour, .int mtoHour, .ref ns, .int mfrom, .int mto, .int msort, .int misFault, .int mdeep, .int mcoded, .int mlines, .ref nl, .ref nc, .ref nF, .ref np, .ref ntr, .ref nb, .int mbestCost, .ref nso, .ref nsi, .ref nit, .ref nsh, .ref nsf, .ref nss, .ref nrc, .int (nI jr16235), .int 3, .int (nI jno), .int (fnw (32 + 6 * jno + 0)), .int (fnw (32 + 6 * jno + 2)), .int ip16236])), (nrc, .inl (G.2.1, 30, .inl gtrc6237))] H := hP
          have hD : va_D A [(nw, .inl (G.2.1, 1662, .inl fnw)), (nsh, .inl (G.2.1, 4, .inl fnsh)), (nsf, .inl (G.2.1, 4, .inl fnsf)), (h0, .inr (12, [.ref nw, .ref nk, .int mhasKept, .ref nt, .int mtaped, .ref nr, .int mrowMany, .int mroundOf, .int mroundFrom, .int mouts, .ref nm, .int mfromHour, .int mtoHour, .ref ns, .int mfrom, .int mto, .int msort, .int misFault, .int mdeep, .int mcoded, .int mlines, .ref nl, .ref nc, .ref nF, .ref np, .ref ntr, .ref nb, .int mbestCost, .ref nso, .ref nsi, .ref nit, .ref nsh, .ref nsf, .ref nss, .ref nrc, .int (nI jr16235), .int 3, .int (nI jno), .int (fnw (32 + 6 * jno + 0)), .int (fnw (32 + 6 * jno + 2)), .int ip16236])), (nrc, .inl (G.2.1, 30, .inl gtrc6237))] := hD
          obtain ⟨hr6233, w6238⟩ := hr6233
          refine lv_istore (lv' := [(7, .int r6233), (6, .int 0), (5, .int 1), (4, .int 3), (0, .ref h0), (1, .int (nI jt)), (2, .int 0), (3, .int x3)]) hx hb dX12_deal_208 hl (by decide) rfl (fun ls hl => ?_)
          refine lv_aload_n hx hb dX12_deal_210 rfl (lv_at hl 4 rfl) ?_
          refine gf_X12_380 hC rfl hK hP 3 rfl rfl dX12_deal_211 ?_
          refine lv_if_eq (tgt := 222) hx hb dX12_deal_214 (by decide) (fun c_214_6239 => ?_) (fun c_214_6239 => ?_)
          · refine lv_iload hx hb dX12_deal_222 (lv_at hl 0 rfl) ?_
            exact RI (v := r6233) hC hP hD hS [3, 0, 1, 2, 4] (jr16235, 3, nI jno, fnw (32 + 6 * jno + 0), fnw (32 + 6 * jno + 2), ip16236, gtrc6237) rfl rfl (by decide) (⟨trivial, by omega⟩) rfl dX12_deal_224
          · refine lv_bipush (v := (-15)) hx hb dX12_deal_217 (by decide) ?_
            refine lv_goto (tgt := 224) hx hb dX12_deal_219 (by decide) ?_
            exact RI (v := (-15)) hC hP hD hS [3, 0, 1, 2, 4] (jr16235, 3, nI jno, fnw (32 + 6 * jno + 0), fnw (32 + 6 * jno + 2), ip16236, gtrc6237) rfl rfl (by decide) (⟨trivial, by omega⟩) rfl dX12_deal_224
        · refine lv_aload_n hx hb dX12_deal_202 rfl (lv_at hl 3 rfl) ?_
          refine lv_iload_n hx hb dX12_deal_203 rfl (lv_at hl 5 rfl) ?_
          refine lv_iload_n hx hb dX12_deal_204 rfl (lv_at hl 6 rfl) ?_
          refine iV (wr := [(nw, .inl (G.2.1, 1662, .inl fnw)), (nsh, .inl (G.2.1, 4, .inl fnsh)), (nsf, .inl (G.2.1, 4, .inl fnsf))]) hC hK hl hP hD hS hA (m_dealt1 l G h0 x3 nw nk mhasKept nt mtaped nr mrowMany mroundOf mroundFrom mouts nm mfromHour mtoHour ns mfrom mto msort misFault mdeep mcoded mlines nl nc nF np ntr nb mbestCost nso nsi nit nsh nsf nss nrc 0 3 (nI jno) (fnw (32 + 6 * jno + 0)) (fnw (32 + 6 * jno + 2)) 0 fnrc (by omega) (by omega)) si_X12_372 [0, 4] [1, 2, 3] rfl rfl (by decide) rfl (by decide) (by decide) rfl rfl rfl rfl rfl (Nat.le_of_ble_eq_true rfl) ⟨Nat.le_of_ble_eq_true rfl, Nat.le_of_ble_eq_true rfl⟩ ⟨Nat.le_of_ble_eq_true rfl, Nat.le_of_ble_eq_true rfl⟩ dX12_deal_205 (fun r6240 u6241 H locs hr6240 hP hD hS => ?_)
          obtain ⟨jr16242, ip16243, gtrc6244⟩ := u6241
          try dsimp only at hr6240
          have hP : va_P G.1 vwCl [(nw, .inl (G.2.1, 1662, .inl fnw)), (nsh, .inl (G.2.1, 4, .inl fnsh)), (nsf, .inl (G.2.1, 4, .inl fnsf)), (h0, .inr (12, [.ref nw, .ref nk, .int mhasKept, .ref nt, .int mtaped, .ref nr, .int mrowMany, .int mroundOf, .int mroundFrom, .int mouts, .ref nm, .int mfromHour, .int mtoHour, .ref ns, .int mfrom, .int mto, .int msort, .int misFault, .int mdeep, .int mcoded, .int mlines, .ref nl, .ref nc, .ref nF, .ref np, .ref ntr, .ref nb, .int mbestCost, .ref nso, .ref nsi, .ref nit, .ref nsh, .ref nsf, .ref nss, .ref nrc, .int (nI jr16242), .int 3, .int (nI jno), .int (fnw (32 + 6 * jno + 0)), .int (fnw (32 + 6 * jno + 2)), .int ip16243])), (nrc, .inl (G.2.1, 30, .inl gtrc6244))] H := hP
          have hD : va_D A [(nw, .inl (G.2.1, 1662, .inl fnw)), (nsh, .inl (G.2.1, 4, .inl fnsh)), (nsf, .inl (G.2.1, 4, .inl fnsf)), (h0, .inr (12, [.ref nw, .ref nk, .int mhasKept, .ref nt, .int mtaped, .ref nr, .int mrowMany, .int mroundOf, .int mroundFrom, .int mouts, .ref nm, .int mfromHour, .int mtoHour, .ref ns, .int mfrom, .int mto, .int msort, .int misFault, .int mdeep, .int mcoded, .int mlines, .ref nl, .ref nc, .ref nF, .ref np, .ref ntr, .ref nb, .int mbestCost, .ref nso, .ref nsi, .ref nit, .ref nsh, .ref nsf, .ref nss, .ref nrc, .int (nI jr16242), .int 3, .int (nI jno), .int (fnw (32 + 6 * jno + 0)), .int (fnw (32 + 6 * jno + 2)), .int ip16243])), (nrc, .inl (G.2.1, 30, .inl gtrc6244))] := hD
          obtain ⟨hr6240, w6245⟩ := hr6240
          refine lv_istore (lv' := [(7, .int r6240), (6, .int 0), (5, .int 1), (4, .int 3), (0, .ref h0), (1, .int (nI jt)), (2, .int 1), (3, .int x3)]) hx hb dX12_deal_208 hl (by decide) rfl (fun ls hl => ?_)
          refine lv_aload_n hx hb dX12_deal_210 rfl (lv_at hl 4 rfl) ?_
          refine gf_X12_380 hC rfl hK hP 3 rfl rfl dX12_deal_211 ?_
          refine lv_if_eq (tgt := 222) hx hb dX12_deal_214 (by decide) (fun c_214_6246 => ?_) (fun c_214_6246 => ?_)
          · refine lv_iload hx hb dX12_deal_222 (lv_at hl 0 rfl) ?_
            exact RI (v := r6240) hC hP hD hS [3, 0, 1, 2, 4] (jr16242, 3, nI jno, fnw (32 + 6 * jno + 0), fnw (32 + 6 * jno + 2), ip16243, gtrc6244) rfl rfl (by decide) (⟨trivial, by omega⟩) rfl dX12_deal_224
          · refine lv_bipush (v := (-15)) hx hb dX12_deal_217 (by decide) ?_
            refine lv_goto (tgt := 224) hx hb dX12_deal_219 (by decide) ?_
            exact RI (v := (-15)) hC hP hD hS [3, 0, 1, 2, 4] (jr16242, 3, nI jno, fnw (32 + 6 * jno + 0), fnw (32 + 6 * jno + 2), ip16243, gtrc6244) rfl rfl (by decide) (⟨trivial, by omega⟩) rfl dX12_deal_224
        · refine lv_aload_n hx hb dX12_deal_202 rfl (lv_at hl 3 rfl) ?_
          refine lv_iload_n hx hb dX12_deal_203 rfl (lv_at hl 5 rfl) ?_
          refine lv_iload_n hx hb dX12_deal_204 rfl (lv_at hl 6 rfl) ?_
          refine iV (wr := [(nw, .inl (G.2.1, 1662, .inl fnw)), (nsh, .inl (G.2.1, 4, .inl fnsh)), (nsf, .inl (G.2.1, 4, .inl fnsf))]) hC hK hl hP hD hS hA (m_dealt2 l G h0 x3 nw nk mhasKept nt mtaped nr mrowMany mroundOf mroundFrom mouts nm mfromHour mtoHour ns mfrom mto msort misFault mdeep mcoded mlines nl nc nF np ntr nb mbestCost nso nsi nit nsh nsf nss nrc 0 3 (nI jno) (fnw (32 + 6 * jno + 0)) (fnw (32 + 6 * jno + 2)) 0 fnrc (by omega) (by omega)) si_X12_372 [0, 4] [1, 2, 3] rfl rfl (by decide) rfl (by decide) (by decide) rfl rfl rfl rfl rfl (Nat.le_of_ble_eq_true rfl) ⟨Nat.le_of_ble_eq_true rfl, Nat.le_of_ble_eq_true rfl⟩ ⟨Nat.le_of_ble_eq_true rfl, Nat.le_of_ble_eq_true rfl⟩ dX12_deal_205 (fun r6247 u6248 H locs hr6247 hP hD hS => ?_)
          obtain ⟨jr16249, ip16250, gtrc6251⟩ := u6248
          try dsimp only at hr6247
          have hP : va_P G.1 vwCl [(nw, .inl (G.2.1, 1662, .inl fnw)), (nsh, .inl (G.2.1, 4, .inl fnsh)), (nsf, .inl (G.2.1, 4, .inl fnsf)), (h0, .inr (12, [.ref nw, .ref nk, .int mhasKept, .ref nt, .int mtaped, .ref nr, .int mrowMany, .int mroundOf, .int mroundFrom, .int mouts, .ref nm, .int mfromHour, .int mtoHour, .ref ns, .int mfrom, .int mto, .int msort, .int misFault, .int mdeep, .int mcoded, .int mlines, .ref nl, .ref nc, .ref nF, .ref np, .ref ntr, .ref nb, .int mbestCost, .ref nso, .ref nsi, .ref nit, .ref nsh, .ref nsf, .ref nss, .ref nrc, .int (nI jr16249), .int 3, .int (nI jno), .int (fnw (32 + 6 * jno + 0)), .int (fnw (32 + 6 * jno + 2)), .int ip16250])), (nrc, .inl (G.2.1, 30, .inl gtrc6251))] H := hP
          have hD : va_D A [(nw, .inl (G.2.1, 1662, .inl fnw)), (nsh, .inl (G.2.1, 4, .inl fnsh)), (nsf, .inl (G.2.1, 4, .inl fnsf)), (h0, .inr (12, [.ref nw, .ref nk, .int mhasKept, .ref nt, .int mtaped, .ref nr, .int mrowMany, .int mroundOf, .int mroundFrom, .int mouts, .ref nm, .int mfromHour, .int mtoHour, .ref ns, .int mfrom, .int mto, .int msort, .int misFault, .int mdeep, .int mcoded, .int mlines, .ref nl, .ref nc, .ref nF, .ref np, .ref ntr, .ref nb, .int mbestCost, .ref nso, .ref nsi, .ref nit, .ref nsh, .ref nsf, .ref nss, .ref nrc, .int (nI jr16249), .int 3, .int (nI jno), .int (fnw (32 + 6 * jno + 0)), .int (fnw (32 + 6 * jno + 2)), .int ip16250])), (nrc, .inl (G.2.1, 30, .inl gtrc6251))] := hD
          obtain ⟨hr6247, w6252⟩ := hr6247
          refine lv_istore (lv' := [(7, .int r6247), (6, .int 0), (5, .int 1), (4, .int 3), (0, .ref h0), (1, .int (nI jt)), (2, .int 2), (3, .int x3)]) hx hb dX12_deal_208 hl (by decide) rfl (fun ls hl => ?_)
          refine lv_aload_n hx hb dX12_deal_210 rfl (lv_at hl 4 rfl) ?_
          refine gf_X12_380 hC rfl hK hP 3 rfl rfl dX12_deal_211 ?_
          refine lv_if_eq (tgt := 222) hx hb dX12_deal_214 (by decide) (fun c_214_6253 => ?_) (fun c_214_6253 => ?_)
          · refine lv_iload hx hb dX12_deal_222 (lv_at hl 0 rfl) ?_
            exact RI (v := r6247) hC hP hD hS [3, 0, 1, 2, 4] (jr16249, 3, nI jno, fnw (32 + 6 * jno + 0), fnw (32 + 6 * jno + 2), ip16250, gtrc6251) rfl rfl (by decide) (⟨trivial, by omega⟩) rfl dX12_deal_224
          · refine lv_bipush (v := (-15)) hx hb dX12_deal_217 (by decide) ?_
            refine lv_goto (tgt := 224) hx hb dX12_deal_219 (by decide) ?_
            exact RI (v := (-15)) hC hP hD hS [3, 0, 1, 2, 4] (jr16249, 3, nI jno, fnw (32 + 6 * jno + 0), fnw (32 + 6 * jno + 2), ip16250, gtrc6251) rfl rfl (by decide) (⟨trivial, by omega⟩) rfl dX12_deal_224
        · refine lv_aload_n hx hb dX12_deal_202 rfl (lv_at hl 3 rfl) ?_
          refine lv_iload_n hx hb dX12_deal_203 rfl (lv_at hl 5 rfl) ?_
          refine lv_iload_n hx hb dX12_deal_204 rfl (lv_at hl 6 rfl) ?_
          refine iV (wr := [(nw, .inl (G.2.1, 1662, .inl fnw)), (nsh, .inl (G.2.1, 4, .inl fnsh)), (nsf, .inl (G.2.1, 4, .inl fnsf))]) hC hK hl hP hD hS hA (m_dealt3 l G h0 x3 nw nk mhasKept nt mtaped nr mrowMany mroundOf mroundFrom mouts nm mfromHour mtoHour ns mfrom mto msort misFault mdeep mcoded mlines nl nc nF np ntr nb mbestCost nso nsi nit nsh nsf nss nrc 0 3 (nI jno) (fnw (32 + 6 * jno + 0)) (fnw (32 + 6 * jno + 2)) 0 fnrc (by omega) (by omega)) si_X12_372 [0, 4] [1, 2, 3] rfl rfl (by decide) rfl (by decide) (by decide) rfl rfl rfl rfl rfl (Nat.le_of_ble_eq_true rfl) ⟨Nat.le_of_ble_eq_true rfl, Nat.le_of_ble_eq_true rfl⟩ ⟨Nat.le_of_ble_eq_true rfl, Nat.le_of_ble_eq_true rfl⟩ dX12_deal_205 (fun r6254 u6255 H locs hr6254 hP hD hS => ?_)
          obtain ⟨jr16256, ip16257, gtrc6258⟩ := u6255
          try dsimp only at hr6254
          have hP : va_P G.1 vwCl [(nw, .inl (G.2.1, 1662, .inl fnw)), (nsh, .inl (G.2.1, 4, .inl fnsh)), (nsf, .inl (G.2.1, 4, .inl fnsf)), (h0, .inr (12, [.ref nw, .ref nk, .int mhasKept, .ref nt, .int mtaped, .ref nr, .int mrowMany, .int mroundOf, .int mroundFrom, .int mouts, .ref nm, .int mfromHour, .int mtoHour, .ref ns, .int mfrom, .int mto, .int msort, .int misFault, .int mdeep, .int mcoded, .int mlines, .ref nl, .ref nc, .ref nF, .ref np, .ref ntr, .ref nb, .int mbestCost, .ref nso, .ref nsi, .ref nit, .ref nsh, .ref nsf, .ref nss, .ref nrc, .int (nI jr16256), .int 3, .int (nI jno), .int (fnw (32 + 6 * jno + 0)), .int (fnw (32 + 6 * jno + 2)), .int ip16257])), (nrc, .inl (G.2.1, 30, .inl gtrc6258))] H := hP
          have hD : va_D A [(nw, .inl (G.2.1, 1662, .inl fnw)), (nsh, .inl (G.2.1, 4, .inl fnsh)), (nsf, .inl (G.2.1, 4, .inl fnsf)), (h0, .inr (12, [.ref nw, .ref nk, .int mhasKept, .ref nt, .int mtaped, .ref nr, .int mrowMany, .int mroundOf, .int mroundFrom, .int mouts, .ref nm, .int mfromHour, .int mtoHour, .ref ns, .int mfrom, .int mto, .int msort, .int misFault, .int mdeep, .int mcoded, .int mlines, .ref nl, .ref nc, .ref nF, .ref np, .ref ntr, .ref nb, .int mbestCost, .ref nso, .ref nsi, .ref nit, .ref nsh, .ref nsf, .ref nss, .ref nrc, .int (nI jr16256), .int 3, .int (nI jno), .int (fnw (32 + 6 * jno + 0)), .int (fnw (32 + 6 * jno + 2)), .int ip16257])), (nrc, .inl (G.2.1, 30, .inl gtrc6258))] := hD
          obtain ⟨hr6254, w6259⟩ := hr6254
          refine lv_istore (lv' := [(7, .int r6254), (6, .int 0), (5, .int 1), (4, .int 3), (0, .ref h0), (1, .int (nI jt)), (2, .int 3), (3, .int x3)]) hx hb dX12_deal_208 hl (by decide) rfl (fun ls hl => ?_)
          refine lv_aload_n hx hb dX12_deal_210 rfl (lv_at hl 4 rfl) ?_
          refine gf_X12_380 hC rfl hK hP 3 rfl rfl dX12_deal_211 ?_
          refine lv_if_eq (tgt := 222) hx hb dX12_deal_214 (by decide) (fun c_214_6260 => ?_) (fun c_214_6260 => ?_)
          · refine lv_iload hx hb dX12_deal_222 (lv_at hl 0 rfl) ?_
            exact RI (v := r6254) hC hP hD hS [3, 0, 1, 2, 4] (jr16256, 3, nI jno, fnw (32 + 6 * jno + 0), fnw (32 + 6 * jno + 2), ip16257, gtrc6258) rfl rfl (by decide) (⟨trivial, by omega⟩) rfl dX12_deal_224
          · refine lv_bipush (v := (-15)) hx hb dX12_deal_217 (by decide) ?_
            refine lv_goto (tgt := 224) hx hb dX12_deal_219 (by decide) ?_
            exact RI (v := (-15)) hC hP hD hS [3, 0, 1, 2, 4] (jr16256, 3, nI jno, fnw (32 + 6 * jno + 0), fnw (32 + 6 * jno + 2), ip16257, gtrc6258) rfl rfl (by decide) (⟨trivial, by omega⟩) rfl dX12_deal_224
      · refine lv_istore (lv' := [(4, .int 4), (0, .ref h0), (1, .int (nI jt)), (2, .int x2), (3, .int x3)]) hx hb dX12_deal_28 hl (by decide) rfl (fun ls hl => ?_)
        refine lv_iload hx hb dX12_deal_30 (lv_at hl 0 rfl) ?_
        refine lv_if_ge (tgt := 37) hx hb dX12_deal_32 (by decide) (fun _ => ?_) (fun c9 => absurd (by decide) c9)
        refine lv_aload_n hx hb dX12_deal_37 rfl (lv_at hl 1 rfl) ?_
        refine lv_iload hx hb dX12_deal_38 (lv_at hl 0 rfl) ?_
        refine pf_X12_354 hC rfl hK hP hD hS 0 (ws' := [(h0, .inr (12, [.ref nw, .ref nk, .int mhasKept, .ref nt, .int mtaped, .ref nr, .int mrowMany, .int mroundOf, .int mroundFrom, .int mouts, .ref nm, .int mfromHour, .int mtoHour, .ref ns, .int mfrom, .int mto, .int msort, .int misFault, .int mdeep, .int mcoded, .int mlines, .ref nl, .ref nc, .ref nF, .ref np, .ref ntr, .ref nb, .int mbestCost, .ref nso, .ref nsi, .ref nit, .ref nsh, .ref nsf, .ref nss, .ref nrc, .int 0, .int 4, .int mnumber, .int mwhose, .int msize, .int misParted])), (nw, .inl (G.2.1, 1662, .inl fnw)), (nsh, .inl (G.2.1, 4, .inl fnsh)), (nsf, .inl (G.2.1, 4, .inl fnsf)), (nrc, .inl (G.2.1, 30, .inl fnrc))]) rfl (Nat.le_of_ble_eq_true rfl) rfl rfl rfl dX12_deal_40 (fun H locs hP hD hS => ?_)
        refine lv_aload_n hx hb dX12_deal_43 rfl (lv_at hl 1 rfl) ?_
        refine lv_aload_n hx hb dX12_deal_44 rfl (lv_at hl 1 rfl) ?_
        refine gf_X12_75 hC rfl hK hP 0 rfl rfl dX12_deal_45 ?_
        refine lv_iload_n hx hb dX12_deal_48 rfl (lv_at hl 2 rfl) ?_
        refine ald hC hK hP 3 rfl (vp_in_nI (by omega) (by omega)) (k := jt) (nI_clamp (by omega)) (v := fnsf jt) rfl dX12_deal_49 ?_
        refine lv_topi (fun x6261 ex6261 => ?_)
        obtain ⟨hko9, jno, hjno, ejno⟩ := a6155
        refine eqi (x1 := nI jno) (ex6261.trans ejno) ?_
        refine pf_X12_378 hC rfl hK hP hD hS 0 (ws' := [(h0, .inr (12, [.ref nw, .ref nk, .int mhasKept, .ref nt, .int mtaped, .ref nr, .int mrowMany, .int mroundOf, .int mroundFrom, .int mouts, .ref nm, .int mfromHour, .int mtoHour, .ref ns, .int mfrom, .int mto, .int msort, .int misFault, .int mdeep, .int mcoded, .int mlines, .ref nl, .ref nc, .ref nF, .ref np, .ref ntr, .ref nb, .int mbestCost, .ref nso, .ref nsi, .ref nit, .ref nsh, .ref nsf, .ref nss, .ref nrc, .int 0, .int 4, .int (nI jno), .int mwhose, .int msize, .int misParted])), (nw, .inl (G.2.1, 1662, .inl fnw)), (nsh, .inl (G.2.1, 4, .inl fnsh)), (nsf, .inl (G.2.1, 4, .inl fnsf)), (nrc, .inl (G.2.1, 30, .inl fnrc))]) rfl (Nat.le_of_ble_eq_true rfl) rfl rfl rfl dX12_deal_50 (fun H locs hP hD hS => ?_)
        refine lv_aload_n hx hb dX12_deal_53 rfl (lv_at hl 1 rfl) ?_
        refine gf_X12_72 hC rfl hK hP 0 rfl rfl dX12_deal_54 ?_
        refine lv_iload_n hx hb dX12_deal_57 rfl (lv_at hl 2 rfl) ?_
        refine ald hC hK hP 2 rfl (vp_in_nI (by omega) (by omega)) (k := jt) (nI_clamp (by omega)) (v := fnsh jt) rfl dX12_deal_58 ?_
        refine lv_topi (fun x6262 ex6262 => ?_)
        refine lv_iconst (v := 1) hx hb dX12_deal_59 (by decide) ?_
        refine lv_icmp_ne (tgt := 67) hx hb dX12_deal_60 (by decide) (fun _ => ?_) (fun c9 => absurd c9 (fun h9 => absurd (hko9.symm.trans ((ex6262.symm).trans h9)) (by decide)))
        refine lv_iconst (v := 0) hx hb dX12_deal_67 (by decide) ?_
        refine lv_istore (lv' := [(5, .int 0), (4, .int 4), (0, .ref h0), (1, .int (nI jt)), (2, .int x2), (3, .int x3)]) hx hb dX12_deal_68 hl (by decide) rfl (fun ls hl => ?_)
        refine lv_aload_n hx hb dX12_deal_70 rfl (lv_at hl 2 rfl) ?_
        refine gf_X12_72 hC rfl hK hP 0 rfl rfl dX12_deal_71 ?_
        refine lv_iload_n hx hb dX12_deal_74 rfl (lv_at hl 3 rfl) ?_
        refine ald hC hK hP 2 rfl (vp_in_nI (by omega) (by omega)) (k := jt) (nI_clamp (by omega)) (v := fnsh jt) rfl dX12_deal_75 ?_
        refine lv_topi (fun x6263 ex6263 => ?_)
        refine lv_iconst (v := 2) hx hb dX12_deal_76 (by decide) ?_
        refine lv_icmp_ne (tgt := 84) hx hb dX12_deal_77 (by decide) (fun c9 => absurd (ex6263.trans hko9) c9) (fun _ => ?_)
        refine lv_iconst (v := 1) hx hb dX12_deal_80 (by decide) ?_
        refine lv_goto (tgt := 85) hx hb dX12_deal_81 (by decide) ?_
        refine lv_istore (lv' := [(6, .int 1), (5, .int 0), (4, .int 4), (0, .ref h0), (1, .int (nI jt)), (2, .int x2), (3, .int x3)]) hx hb dX12_deal_85 hl (by decide) rfl (fun ls hl => ?_)
        refine lv_aload_n hx hb dX12_deal_87 rfl (lv_at hl 3 rfl) ?_
        refine lv_iload hx hb dX12_deal_88 (lv_at hl 1 rfl) ?_
        refine lv_if_eq (tgt := 105) hx hb dX12_deal_90 (by decide) (fun _ => ?_) (fun c9 => absurd (by decide) c9)
        refine lv_iload hx hb dX12_deal_105 (lv_at hl 0 rfl) ?_
        refine lv_if_eq (tgt := 122) hx hb dX12_deal_107 (by decide) (fun c9 => absurd c9 (by decide)) (fun _ => ?_)
        refine lv_aload_n hx hb dX12_deal_110 rfl (lv_at hl 3 rfl) ?_
        refine lv_aload_n hx hb dX12_deal_111 rfl (lv_at hl 3 rfl) ?_
        refine gf_X12_378 hC rfl hK hP 0 rfl rfl dX12_deal_112 ?_
        refine lv_iconst (v := 0) hx hb dX12_deal_115 (by decide) ?_
        refine pV hC hK hl hP hD (m_saying l G h0 jno 0 nw nk mhasKept nt mtaped nr mrowMany mroundOf mroundFrom mouts nm mfromHour mtoHour ns mfrom mto msort misFault mdeep mcoded mlines nl nc nF np ntr nb mbestCost nso nsi nit nsh nsf nss nrc 0 4 (nI jno) mwhose msize misParted fnw (by omega) (by omega)) si_X12_114 [0, 1] rfl rfl (by decide) rfl rfl rfl rfl rfl (Nat.le_of_ble_eq_true rfl) ⟨Nat.le_of_ble_eq_true rfl, Nat.le_of_ble_eq_true rfl⟩ ⟨by first | exact Nat.le_of_ble_eq_true rfl | exact Nat.zero_le _, by first | exact Nat.le_of_ble_eq_true rfl | exact Nat.zero_le _⟩ dX12_deal_116 (fun r6264 hr6264 => ?_)
        obtain rfl := hr6264
        refine lv_goto (tgt := 139) hx hb dX12_deal_119 (by decide) ?_
        refine pf_X12_375 hC rfl hK hP hD hS 0 (ws' := [(h0, .inr (12, [.ref nw, .ref nk, .int mhasKept, .ref nt, .int mtaped, .ref nr, .int mrowMany, .int mroundOf, .int mroundFrom, .int mouts, .ref nm, .int mfromHour, .int mtoHour, .ref ns, .int mfrom, .int mto, .int msort, .int misFault, .int mdeep, .int mcoded, .int mlines, .ref nl, .ref nc, .ref nF, .ref np, .ref ntr, .ref nb, .int mbestCost, .ref nso, .ref nsi, .ref nit, .ref nsh, .ref nsf, .ref nss, .ref nrc, .int 0, .int 4, .int (nI jno), .int (fnw (1424 + 8 * jno + 0)), .int msize, .int misParted])), (nw, .inl (G.2.1, 1662, .inl fnw)), (nsh, .inl (G.2.1, 4, .inl fnsh)), (nsf, .inl (G.2.1, 4, .inl fnsf)), (nrc, .inl (G.2.1, 30, .inl fnrc))]) rfl (Nat.le_of_ble_eq_true rfl) rfl rfl rfl dX12_deal_139 (fun H locs hP hD hS => ?_)
        refine lv_aload_n hx hb dX12_deal_142 rfl (lv_at hl 3 rfl) ?_
        refine lv_iload hx hb dX12_deal_143 (lv_at hl 1 rfl) ?_
        refine lv_if_eq (tgt := 160) hx hb dX12_deal_145 (by decide) (fun _ => ?_) (fun c9 => absurd (by decide) c9)
        refine lv_iload hx hb dX12_deal_160 (lv_at hl 0 rfl) ?_
        refine lv_if_eq (tgt := 177) hx hb dX12_deal_162 (by decide) (fun c9 => absurd c9 (by decide)) (fun _ => ?_)
        refine lv_aload_n hx hb dX12_deal_165 rfl (lv_at hl 3 rfl) ?_
        refine lv_aload_n hx hb dX12_deal_166 rfl (lv_at hl 3 rfl) ?_
        refine gf_X12_378 hC rfl hK hP 0 rfl rfl dX12_deal_167 ?_
        refine lv_iconst (v := 4) hx hb dX12_deal_170 (by decide) ?_
        refine pV hC hK hl hP hD (m_saying l G h0 jno 4 nw nk mhasKept nt mtaped nr mrowMany mroundOf mroundFrom mouts nm mfromHour mtoHour ns mfrom mto msort misFault mdeep mcoded mlines nl nc nF np ntr nb mbestCost nso nsi nit nsh nsf nss nrc 0 4 (nI jno) (fnw (1424 + 8 * jno + 0)) msize misParted fnw (by omega) (by omega)) si_X12_114 [0, 1] rfl rfl (by decide) rfl rfl rfl rfl rfl (Nat.le_of_ble_eq_true rfl) ⟨Nat.le_of_ble_eq_true rfl, Nat.le_of_ble_eq_true rfl⟩ ⟨by first | exact Nat.le_of_ble_eq_true rfl | exact Nat.zero_le _, by first | exact Nat.le_of_ble_eq_true rfl | exact Nat.zero_le _⟩ dX12_deal_171 (fun r6266 hr6266 => ?_)
        obtain rfl := hr6266
        refine lv_goto (tgt := 194) hx hb dX12_deal_174 (by decide) ?_
        refine pf_X12_369 hC rfl hK hP hD hS 0 (ws' := [(h0, .inr (12, [.ref nw, .ref nk, .int mhasKept, .ref nt, .int mtaped, .ref nr, .int mrowMany, .int mroundOf, .int mroundFrom, .int mouts, .ref nm, .int mfromHour, .int mtoHour, .ref ns, .int mfrom, .int mto, .int msort, .int misFault, .int mdeep, .int mcoded, .int mlines, .ref nl, .ref nc, .ref nF, .ref np, .ref ntr, .ref nb, .int mbestCost, .ref nso, .ref nsi, .ref nit, .ref nsh, .ref nsf, .ref nss, .ref nrc, .int 0, .int 4, .int (nI jno), .int (fnw (1424 + 8 * jno + 0)), .int (fnw (1424 + 8 * jno + 4)), .int misParted])), (nw, .inl (G.2.1, 1662, .inl fnw)), (nsh, .inl (G.2.1, 4, .inl fnsh)), (nsf, .inl (G.2.1, 4, .inl fnsf)), (nrc, .inl (G.2.1, 30, .inl fnrc))]) rfl (Nat.le_of_ble_eq_true rfl) rfl rfl rfl dX12_deal_194 (fun H locs hP hD hS => ?_)
        refine lv_aload_n hx hb dX12_deal_197 rfl (lv_at hl 3 rfl) ?_
        refine lv_iconst (v := 0) hx hb dX12_deal_198 (by decide) ?_
        refine pf_X12_380 hC rfl hK hP hD hS 0 (ws' := [(h0, .inr (12, [.ref nw, .ref nk, .int mhasKept, .ref nt, .int mtaped, .ref nr, .int mrowMany, .int mroundOf, .int mroundFrom, .int mouts, .ref nm, .int mfromHour, .int mtoHour, .ref ns, .int mfrom, .int mto, .int msort, .int misFault, .int mdeep, .int mcoded, .int mlines, .ref nl, .ref nc, .ref nF, .ref np, .ref ntr, .ref nb, .int mbestCost, .ref nso, .ref nsi, .ref nit, .ref nsh, .ref nsf, .ref nss, .ref nrc, .int 0, .int 4, .int (nI jno), .int (fnw (1424 + 8 * jno + 0)), .int (fnw (1424 + 8 * jno + 4)), .int 0])), (nw, .inl (G.2.1, 1662, .inl fnw)), (nsh, .inl (G.2.1, 4, .inl fnsh)), (nsf, .inl (G.2.1, 4, .inl fnsf)), (nrc, .inl (G.2.1, 30, .inl fnrc))]) rfl (Nat.le_of_ble_eq_true rfl) rfl (by decide +kernel) (by decide +kernel) dX12_deal_199 (fun H locs hP hD hS => ?_)
        obtain ⟨jdl, hjdl, rfl⟩ := Wi_nat (N := 3) (by decide) a6153
        rcases (show jdl = 0 ∨ jdl = 1 ∨ jdl = 2 ∨ jdl = 3 by omega) with rfl | rfl | rfl | rfl
        · refine lv_aload_n hx hb dX12_deal_202 rfl (lv_at hl 3 rfl) ?_
          refine lv_iload_n hx hb dX12_deal_203 rfl (lv_at hl 5 rfl) ?_
          refine lv_iload_n hx hb dX12_deal_204 rfl (lv_at hl 6 rfl) ?_
          refine iV (wr := [(nw, .inl (G.2.1, 1662, .inl fnw)), (nsh, .inl (G.2.1, 4, .inl fnsh)), (nsf, .inl (G.2.1, 4, .inl fnsf))]) hC hK hl hP hD hS hA (m_dealt0 l G h0 x3 nw nk mhasKept nt mtaped nr mrowMany mroundOf mroundFrom mouts nm mfromHour mtoHour ns mfrom mto msort misFault mdeep mcoded mlines nl nc nF np ntr nb mbestCost nso nsi nit nsh nsf nss nrc 0 4 (nI jno) (fnw (1424 + 8 * jno + 0)) (fnw (1424 + 8 * jno + 4)) 0 fnrc (by omega) (by omega)) si_X12_372 [0, 4] [1, 2, 3] rfl rfl (by decide) rfl (by decide) (by decide) rfl rfl rfl rfl rfl (Nat.le_of_ble_eq_true rfl) ⟨Nat.le_of_ble_eq_true rfl, Nat.le_of_ble_eq_true rfl⟩ ⟨Nat.le_of_ble_eq_true rfl, Nat.le_of_ble_eq_true rfl⟩ dX12_deal_205 (fun r6268 u6269 H locs hr6268 hP hD hS => ?_)
          obtain ⟨jr16270, ip16271, gtrc6272⟩ := u6269
          try dsimp only at hr6268
          have hP : va_P G.1 vwCl [(nw, .inl (G.2.1, 1662, .inl fnw)), (nsh, .inl (G.2.1, 4, .inl fnsh)), (nsf, .inl (G.2.1, 4, .inl fnsf)), (h0, .inr (12, [.ref nw, .ref nk, .int mhasKept, .ref nt, .int mtaped, .ref nr, .int mrowMany, .int mroundOf, .int mroundFrom, .int mouts, .ref nm, .int mfromHour, .int mtoHour, .ref ns, .int mfrom, .int mto, .int msort, .int misFault, .int mdeep, .int mcoded, .int mlines, .ref nl, .ref nc, .ref nF, .ref np, .ref ntr, .ref nb, .int mbestCost, .ref nso, .ref nsi, .ref nit, .ref nsh, .ref nsf, .ref nss, .ref nrc, .int (nI jr16270), .int 4, .int (nI jno), .int (fnw (1424 + 8 * jno + 0)), .int (fnw (1424 + 8 * jno + 4)), .int ip16271])), (nrc, .inl (G.2.1, 30, .inl gtrc6272))] H := hP
          have hD : va_D A [(nw, .inl (G.2.1, 1662, .inl fnw)), (nsh, .inl (G.2.1, 4, .inl fnsh)), (nsf, .inl (G.2.1, 4, .inl fnsf)), (h0, .inr (12, [.ref nw, .ref nk, .int mhasKept, .ref nt, .int mtaped, .ref nr, .int mrowMany, .int mroundOf, .int mroundFrom, .int mouts, .ref nm, .int mfromHour, .int mtoHour, .ref ns, .int mfrom, .int mto, .int msort, .int misFault, .int mdeep, .int mcoded, .int mlines, .ref nl, .ref nc, .ref nF, .ref np, .ref ntr, .ref nb, .int mbestCost, .ref nso, .ref nsi, .ref nit, .ref nsh, .ref nsf, .ref nss, .ref nrc, .int (nI jr16270), .int 4, .int (nI jno), .int (fnw (1424 + 8 * jno + 0)), .int (fnw (1424 + 8 * jno + 4)), .int ip16271])), (nrc, .inl (G.2.1, 30, .inl gtrc6272))] := hD
          obtain ⟨hr6268, w6273⟩ := hr6268
          refine lv_istore (lv' := [(7, .int r6268), (6, .int 1), (5, .int 0), (4, .int 4), (0, .ref h0), (1, .int (nI jt)), (2, .int 0), (3, .int x3)]) hx hb dX12_deal_208 hl (by decide) rfl (fun ls hl => ?_)
          refine lv_aload_n hx hb dX12_deal_210 rfl (lv_at hl 4 rfl) ?_
          refine gf_X12_380 hC rfl hK hP 3 rfl rfl dX12_deal_211 ?_
          refine lv_if_eq (tgt := 222) hx hb dX12_deal_214 (by decide) (fun c_214_6274 => ?_) (fun c_214_6274 => ?_)
          · refine lv_iload hx hb dX12_deal_222 (lv_at hl 0 rfl) ?_
            exact RI (v := r6268) hC hP hD hS [3, 0, 1, 2, 4] (jr16270, 4, nI jno, fnw (1424 + 8 * jno + 0), fnw (1424 + 8 * jno + 4), ip16271, gtrc6272) rfl rfl (by decide) (⟨trivial, by omega⟩) rfl dX12_deal_224
          · refine lv_bipush (v := (-15)) hx hb dX12_deal_217 (by decide) ?_
            refine lv_goto (tgt := 224) hx hb dX12_deal_219 (by decide) ?_
            exact RI (v := (-15)) hC hP hD hS [3, 0, 1, 2, 4] (jr16270, 4, nI jno, fnw (1424 + 8 * jno + 0), fnw (1424 + 8 * jno + 4), ip16271, gtrc6272) rfl rfl (by decide) (⟨trivial, by omega⟩) rfl dX12_deal_224
        · refine lv_aload_n hx hb dX12_deal_202 rfl (lv_at hl 3 rfl) ?_
          refine lv_iload_n hx hb dX12_deal_203 rfl (lv_at hl 5 rfl) ?_
          refine lv_iload_n hx hb dX12_deal_204 rfl (lv_at hl 6 rfl) ?_
          refine iV (wr := [(nw, .inl (G.2.1, 1662, .inl fnw)), (nsh, .inl (G.2.1, 4, .inl fnsh)), (nsf, .inl (G.2.1, 4, .inl fnsf))]) hC hK hl hP hD hS hA (m_dealt1 l G h0 x3 nw nk mhasKept nt mtaped nr mrowMany mroundOf mroundFrom mouts nm mfromHour mtoHour ns mfrom mto msort misFault mdeep mcoded mlines nl nc nF np ntr nb mbestCost nso nsi nit nsh nsf nss nrc 0 4 (nI jno) (fnw (1424 + 8 * jno + 0)) (fnw (1424 + 8 * jno + 4)) 0 fnrc (by omega) (by omega)) si_X12_372 [0, 4] [1, 2, 3] rfl rfl (by decide) rfl (by decide) (by decide) rfl rfl rfl rfl rfl (Nat.le_of_ble_eq_true rfl) ⟨Nat.le_of_ble_eq_true rfl, Nat.le_of_ble_eq_true rfl⟩ ⟨Nat.le_of_ble_eq_true rfl, Nat.le_of_ble_eq_true rfl⟩ dX12_deal_205 (fun r6275 u6276 H locs hr6275 hP hD hS => ?_)
          obtain ⟨jr16277, ip16278, gtrc6279⟩ := u6276
          try dsimp only at hr6275
          have hP : va_P G.1 vwCl [(nw, .inl (G.2.1, 1662, .inl fnw)), (nsh, .inl (G.2.1, 4, .inl fnsh)), (nsf, .inl (G.2.1, 4, .inl fnsf)), (h0, .inr (12, [.ref nw, .ref nk, .int mhasKept, .ref nt, .int mtaped, .ref nr, .int mrowMany, .int mroundOf, .int mroundFrom, .int mouts, .ref nm, .int mfromHour, .int mtoHour, .ref ns, .int mfrom, .int mto, .int msort, .int misFault, .int mdeep, .int mcoded, .int mlines, .ref nl, .ref nc, .ref nF, .ref np, .ref ntr, .ref nb, .int mbestCost, .ref nso, .ref nsi, .ref nit, .ref nsh, .ref nsf, .ref nss, .ref nrc, .int (nI jr16277), .int 4, .int (nI jno), .int (fnw (1424 + 8 * jno + 0)), .int (fnw (1424 + 8 * jno + 4)), .int ip16278])), (nrc, .inl (G.2.1, 30, .inl gtrc6279))] H := hP
          have hD : va_D A [(nw, .inl (G.2.1, 1662, .inl fnw)), (nsh, .inl (G.2.1, 4, .inl fnsh)), (nsf, .inl (G.2.1, 4, .inl fnsf)), (h0, .inr (12, [.ref nw, .ref nk, .int mhasKept, .ref nt, .int mtaped, .ref nr, .int mrowMany, .int mroundOf, .int mroundFrom, .int mouts, .ref nm, .int mfromHour, .int mtoHour, .ref ns, .int mfrom, .int mto, .int msort, .int misFault, .int mdeep, .int mcoded, .int mlines, .ref nl, .ref nc, .ref nF, .ref np, .ref ntr, .ref nb, .int mbestCost, .ref nso, .ref nsi, .ref nit, .ref nsh, .ref nsf, .ref nss, .ref nrc, .int (nI jr16277), .int 4, .int (nI jno), .int (fnw (1424 + 8 * jno + 0)), .int (fnw (1424 + 8 * jno + 4)), .int ip16278])), (nrc, .inl (G.2.1, 30, .inl gtrc6279))] := hD
          obtain ⟨hr6275, w6280⟩ := hr6275
          refine lv_istore (lv' := [(7, .int r6275), (6, .int 1), (5, .int 0), (4, .int 4), (0, .ref h0), (1, .int (nI jt)), (2, .int 1), (3, .int x3)]) hx hb dX12_deal_208 hl (by decide) rfl (fun ls hl => ?_)
          refine lv_aload_n hx hb dX12_deal_210 rfl (lv_at hl 4 rfl) ?_
          refine gf_X12_380 hC rfl hK hP 3 rfl rfl dX12_deal_211 ?_
          refine lv_if_eq (tgt := 222) hx hb dX12_deal_214 (by decide) (fun c_214_6281 => ?_) (fun c_214_6281 => ?_)
          · refine lv_iload hx hb dX12_deal_222 (lv_at hl 0 rfl) ?_
            exact RI (v := r6275) hC hP hD hS [3, 0, 1, 2, 4] (jr16277, 4, nI jno, fnw (1424 + 8 * jno + 0), fnw (1424 + 8 * jno + 4), ip16278, gtrc6279) rfl rfl (by decide) (⟨trivial, by omega⟩) rfl dX12_deal_224
          · refine lv_bipush (v := (-15)) hx hb dX12_deal_217 (by decide) ?_
            refine lv_goto (tgt := 224) hx hb dX12_deal_219 (by decide) ?_
            exact RI (v := (-15)) hC hP hD hS [3, 0, 1, 2, 4] (jr16277, 4, nI jno, fnw (1424 + 8 * jno + 0), fnw (1424 + 8 * jno + 4), ip16278, gtrc6279) rfl rfl (by decide) (⟨trivial, by omega⟩) rfl dX12_deal_224
        · refine lv_aload_n hx hb dX12_deal_202 rfl (lv_at hl 3 rfl) ?_
          refine lv_iload_n hx hb dX12_deal_203 rfl (lv_at hl 5 rfl) ?_
          refine lv_iload_n hx hb dX12_deal_204 rfl (lv_at hl 6 rfl) ?_
          refine iV (wr := [(nw, .inl (G.2.1, 1662, .inl fnw)), (nsh, .inl (G.2.1, 4, .inl fnsh)), (nsf, .inl (G.2.1, 4, .inl fnsf))]) hC hK hl hP hD hS hA (m_dealt2 l G h0 x3 nw nk mhasKept nt mtaped nr mrowMany mroundOf mroundFrom mouts nm mfromHour mtoHour ns mfrom mto msort misFault mdeep mcoded mlines nl nc nF np ntr nb mbestCost nso nsi nit nsh nsf nss nrc 0 4 (nI jno) (fnw (1424 + 8 * jno + 0)) (fnw (1424 + 8 * jno + 4)) 0 fnrc (by omega) (by omega)) si_X12_372 [0, 4] [1, 2, 3] rfl rfl (by decide) rfl (by decide) (by decide) rfl rfl rfl rfl rfl (Nat.le_of_ble_eq_true rfl) ⟨Nat.le_of_ble_eq_true rfl, Nat.le_of_ble_eq_true rfl⟩ ⟨Nat.le_of_ble_eq_true rfl, Nat.le_of_ble_eq_true rfl⟩ dX12_deal_205 (fun r6282 u6283 H locs hr6282 hP hD hS => ?_)
          obtain ⟨jr16284, ip16285, gtrc6286⟩ := u6283
          try dsimp only at hr6282
          have hP : va_P G.1 vwCl [(nw, .inl (G.2.1, 1662, .inl fnw)), (nsh, .inl (G.2.1, 4, .inl fnsh)), (nsf, .inl (G.2.1, 4, .inl fnsf)), (h0, .inr (12, [.ref nw, .ref nk, .int mhasKept, .ref nt, .int mtaped, .ref nr, .int mrowMany, .int mroundOf, .int mroundFrom, .int mouts, .ref nm, .int mfromHour, .int mtoHour, .ref ns, .int mfrom, .int mto, .int msort, .int misFault, .int mdeep, .int mcoded, .int mlines, .ref nl, .ref nc, .ref nF, .ref np, .ref ntr, .ref nb, .int mbestCost, .ref nso, .ref nsi, .ref nit, .ref nsh, .ref nsf, .ref nss, .ref nrc, .int (nI jr16284), .int 4, .int (nI jno), .int (fnw (1424 + 8 * jno + 0)), .int (fnw (1424 + 8 * jno + 4)), .int ip16285])), (nrc, .inl (G.2.1, 30, .inl gtrc6286))] H := hP
          have hD : va_D A [(nw, .inl (G.2.1, 1662, .inl fnw)), (nsh, .inl (G.2.1, 4, .inl fnsh)), (nsf, .inl (G.2.1, 4, .inl fnsf)), (h0, .inr (12, [.ref nw, .ref nk, .int mhasKept, .ref nt, .int mtaped, .ref nr, .int mrowMany, .int mroundOf, .int mroundFrom, .int mouts, .ref nm, .int mfromHour, .int mtoHour, .ref ns, .int mfrom, .int mto, .int msort, .int misFault, .int mdeep, .int mcoded, .int mlines, .ref nl, .ref nc, .ref nF, .ref np, .ref ntr, .ref nb, .int mbestCost, .ref nso, .ref nsi, .ref nit, .ref nsh, .ref nsf, .ref nss, .ref nrc, .int (nI jr16284), .int 4, .int (nI jno), .int (fnw (1424 + 8 * jno + 0)), .int (fnw (1424 + 8 * jno + 4)), .int ip16285])), (nrc, .inl (G.2.1, 30, .inl gtrc6286))] := hD
          obtain ⟨hr6282, w6287⟩ := hr6282
          refine lv_istore (lv' := [(7, .int r6282), (6, .int 1), (5, .int 0), (4, .int 4), (0, .ref h0), (1, .int (nI jt)), (2, .int 2), (3, .int x3)]) hx hb dX12_deal_208 hl (by decide) rfl (fun ls hl => ?_)
          refine lv_aload_n hx hb dX12_deal_210 rfl (lv_at hl 4 rfl) ?_
          refine gf_X12_380 hC rfl hK hP 3 rfl rfl dX12_deal_211 ?_
          refine lv_if_eq (tgt := 222) hx hb dX12_deal_214 (by decide) (fun c_214_6288 => ?_) (fun c_214_6288 => ?_)
          · refine lv_iload hx hb dX12_deal_222 (lv_at hl 0 rfl) ?_
            exact RI (v := r6282) hC hP hD hS [3, 0, 1, 2, 4] (jr16284, 4, nI jno, fnw (1424 + 8 * jno + 0), fnw (1424 + 8 * jno + 4), ip16285, gtrc6286) rfl rfl (by decide) (⟨trivial, by omega⟩) rfl dX12_deal_224
          · refine lv_bipush (v := (-15)) hx hb dX12_deal_217 (by decide) ?_
            refine lv_goto (tgt := 224) hx hb dX12_deal_219 (by decide) ?_
            exact RI (v := (-15)) hC hP hD hS [3, 0, 1, 2, 4] (jr16284, 4, nI jno, fnw (1424 + 8 * jno + 0), fnw (1424 + 8 * jno + 4), ip16285, gtrc6286) rfl rfl (by decide) (⟨trivial, by omega⟩) rfl dX12_deal_224
        · refine lv_aload_n hx hb dX12_deal_202 rfl (lv_at hl 3 rfl) ?_
          refine lv_iload_n hx hb dX12_deal_203 rfl (lv_at hl 5 rfl) ?_
          refine lv_iload_n hx hb dX12_deal_204 rfl (lv_at hl 6 rfl) ?_
          refine iV (wr := [(nw, .inl (G.2.1, 1662, .inl fnw)), (nsh, .inl (G.2.1, 4, .inl fnsh)), (nsf, .inl (G.2.1, 4, .inl fnsf))]) hC hK hl hP hD hS hA (m_dealt3 l G h0 x3 nw nk mhasKept nt mtaped nr mrowMany mroundOf mroundFrom mouts nm mfromHour mtoHour ns mfrom mto msort misFault mdeep mcoded mlines nl nc nF np ntr nb mbestCost nso nsi nit nsh nsf nss nrc 0 4 (nI jno) (fnw (1424 + 8 * jno + 0)) (fnw (1424 + 8 * jno + 4)) 0 fnrc (by omega) (by omega)) si_X12_372 [0, 4] [1, 2, 3] rfl rfl (by decide) rfl (by decide) (by decide) rfl rfl rfl rfl rfl (Nat.le_of_ble_eq_true rfl) ⟨Nat.le_of_ble_eq_true rfl, Nat.le_of_ble_eq_true rfl⟩ ⟨Nat.le_of_ble_eq_true rfl, Nat.le_of_ble_eq_true rfl⟩ dX12_deal_205 (fun r6289 u6290 H locs hr6289 hP hD hS => ?_)
          obtain ⟨jr16291, ip16292, gtrc6293⟩ := u6290
          try dsimp only at hr6289
          have hP : va_P G.1 vwCl [(nw, .inl (G.2.1, 1662, .inl fnw)), (nsh, .inl (G.2.1, 4, .inl fnsh)), (nsf, .inl (G.2.1, 4, .inl fnsf)), (h0, .inr (12, [.ref nw, .ref nk, .int mhasKept, .ref nt, .int mtaped, .ref nr, .int mrowMany, .int mroundOf, .int mroundFrom, .int mouts, .ref nm, .int mfromHour, .int mtoHour, .ref ns, .int mfrom, .int mto, .int msort, .int misFault, .int mdeep, .int mcoded, .int mlines, .ref nl, .ref nc, .ref nF, .ref np, .ref ntr, .ref nb, .int mbestCost, .ref nso, .ref nsi, .ref nit, .ref nsh, .ref nsf, .ref nss, .ref nrc, .int (nI jr16291), .int 4, .int (nI jno), .int (fnw (1424 + 8 * jno + 0)), .int (fnw (1424 + 8 * jno + 4)), .int ip16292])), (nrc, .inl (G.2.1, 30, .inl gtrc6293))] H := hP
          have hD : va_D A [(nw, .inl (G.2.1, 1662, .inl fnw)), (nsh, .inl (G.2.1, 4, .inl fnsh)), (nsf, .inl (G.2.1, 4, .inl fnsf)), (h0, .inr (12, [.ref nw, .ref nk, .int mhasKept, .ref nt, .int mtaped, .ref nr, .int mrowMany, .int mroundOf, .int mroundFrom, .int mouts, .ref nm, .int mfromHour, .int mtoHour, .ref ns, .int mfrom, .int mto, .int msort, .int misFault, .int mdeep, .int mcoded, .int mlines, .ref nl, .ref nc, .ref nF, .ref np, .ref ntr, .ref nb, .int mbestCost, .ref nso, .ref nsi, .ref nit, .ref nsh, .ref nsf, .ref nss, .ref nrc, .int (nI jr16291), .int 4, .int (nI jno), .int (fnw (1424 + 8 * jno + 0)), .int (fnw (1424 + 8 * jno + 4)), .int ip16292])), (nrc, .inl (G.2.1, 30, .inl gtrc6293))] := hD
          obtain ⟨hr6289, w6294⟩ := hr6289
          refine lv_istore (lv' := [(7, .int r6289), (6, .int 1), (5, .int 0), (4, .int 4), (0, .ref h0), (1, .int (nI jt)), (2, .int 3), (3, .int x3)]) hx hb dX12_deal_208 hl (by decide) rfl (fun ls hl => ?_)
          refine lv_aload_n hx hb dX12_deal_210 rfl (lv_at hl 4 rfl) ?_
          refine gf_X12_380 hC rfl hK hP 3 rfl rfl dX12_deal_211 ?_
          refine lv_if_eq (tgt := 222) hx hb dX12_deal_214 (by decide) (fun c_214_6295 => ?_) (fun c_214_6295 => ?_)
          · refine lv_iload hx hb dX12_deal_222 (lv_at hl 0 rfl) ?_
            exact RI (v := r6289) hC hP hD hS [3, 0, 1, 2, 4] (jr16291, 4, nI jno, fnw (1424 + 8 * jno + 0), fnw (1424 + 8 * jno + 4), ip16292, gtrc6293) rfl rfl (by decide) (⟨trivial, by omega⟩) rfl dX12_deal_224
          · refine lv_bipush (v := (-15)) hx hb dX12_deal_217 (by decide) ?_
            refine lv_goto (tgt := 224) hx hb dX12_deal_219 (by decide) ?_
            exact RI (v := (-15)) hC hP hD hS [3, 0, 1, 2, 4] (jr16291, 4, nI jno, fnw (1424 + 8 * jno + 0), fnw (1424 + 8 * jno + 4), ip16292, gtrc6293) rfl rfl (by decide) (⟨trivial, by omega⟩) rfl dX12_deal_224
      · refine lv_istore (lv' := [(4, .int 5), (0, .ref h0), (1, .int (nI jt)), (2, .int x2), (3, .int x3)]) hx hb dX12_deal_28 hl (by decide) rfl (fun ls hl => ?_)
        refine lv_iload hx hb dX12_deal_30 (lv_at hl 0 rfl) ?_
        refine lv_if_ge (tgt := 37) hx hb dX12_deal_32 (by decide) (fun _ => ?_) (fun c9 => absurd (by decide) c9)
        refine lv_aload_n hx hb dX12_deal_37 rfl (lv_at hl 1 rfl) ?_
        refine lv_iload hx hb dX12_deal_38 (lv_at hl 0 rfl) ?_
        refine pf_X12_354 hC rfl hK hP hD hS 0 (ws' := [(h0, .inr (12, [.ref nw, .ref nk, .int mhasKept, .ref nt, .int mtaped, .ref nr, .int mrowMany, .int mroundOf, .int mroundFrom, .int mouts, .ref nm, .int mfromHour, .int mtoHour, .ref ns, .int mfrom, .int mto, .int msort, .int misFault, .int mdeep, .int mcoded, .int mlines, .ref nl, .ref nc, .ref nF, .ref np, .ref ntr, .ref nb, .int mbestCost, .ref nso, .ref nsi, .ref nit, .ref nsh, .ref nsf, .ref nss, .ref nrc, .int 0, .int 5, .int mnumber, .int mwhose, .int msize, .int misParted])), (nw, .inl (G.2.1, 1662, .inl fnw)), (nsh, .inl (G.2.1, 4, .inl fnsh)), (nsf, .inl (G.2.1, 4, .inl fnsf)), (nrc, .inl (G.2.1, 30, .inl fnrc))]) rfl (Nat.le_of_ble_eq_true rfl) rfl rfl rfl dX12_deal_40 (fun H locs hP hD hS => ?_)
        refine lv_aload_n hx hb dX12_deal_43 rfl (lv_at hl 1 rfl) ?_
        refine lv_aload_n hx hb dX12_deal_44 rfl (lv_at hl 1 rfl) ?_
        refine gf_X12_75 hC rfl hK hP 0 rfl rfl dX12_deal_45 ?_
        refine lv_iload_n hx hb dX12_deal_48 rfl (lv_at hl 2 rfl) ?_
        refine ald hC hK hP 3 rfl (vp_in_nI (by omega) (by omega)) (k := jt) (nI_clamp (by omega)) (v := fnsf jt) rfl dX12_deal_49 ?_
        refine lv_topi (fun x6296 ex6296 => ?_)
        obtain ⟨hko9, jno, hjno, ejno⟩ := a6155
        refine eqi (x1 := nI jno) (ex6296.trans ejno) ?_
        refine pf_X12_378 hC rfl hK hP hD hS 0 (ws' := [(h0, .inr (12, [.ref nw, .ref nk, .int mhasKept, .ref nt, .int mtaped, .ref nr, .int mrowMany, .int mroundOf, .int mroundFrom, .int mouts, .ref nm, .int mfromHour, .int mtoHour, .ref ns, .int mfrom, .int mto, .int msort, .int misFault, .int mdeep, .int mcoded, .int mlines, .ref nl, .ref nc, .ref nF, .ref np, .ref ntr, .ref nb, .int mbestCost, .ref nso, .ref nsi, .ref nit, .ref nsh, .ref nsf, .ref nss, .ref nrc, .int 0, .int 5, .int (nI jno), .int mwhose, .int msize, .int misParted])), (nw, .inl (G.2.1, 1662, .inl fnw)), (nsh, .inl (G.2.1, 4, .inl fnsh)), (nsf, .inl (G.2.1, 4, .inl fnsf)), (nrc, .inl (G.2.1, 30, .inl fnrc))]) rfl (Nat.le_of_ble_eq_true rfl) rfl rfl rfl dX12_deal_50 (fun H locs hP hD hS => ?_)
        refine lv_aload_n hx hb dX12_deal_53 rfl (lv_at hl 1 rfl) ?_
        refine gf_X12_72 hC rfl hK hP 0 rfl rfl dX12_deal_54 ?_
        refine lv_iload_n hx hb dX12_deal_57 rfl (lv_at hl 2 rfl) ?_
        refine ald hC hK hP 2 rfl (vp_in_nI (by omega) (by omega)) (k := jt) (nI_clamp (by omega)) (v := fnsh jt) rfl dX12_deal_58 ?_
        refine lv_topi (fun x6297 ex6297 => ?_)
        refine lv_iconst (v := 1) hx hb dX12_deal_59 (by decide) ?_
        refine lv_icmp_ne (tgt := 67) hx hb dX12_deal_60 (by decide) (fun _ => ?_) (fun c9 => absurd c9 (fun h9 => absurd (hko9.symm.trans ((ex6297.symm).trans h9)) (by decide)))
        refine lv_iconst (v := 0) hx hb dX12_deal_67 (by decide) ?_
        refine lv_istore (lv' := [(5, .int 0), (4, .int 5), (0, .ref h0), (1, .int (nI jt)), (2, .int x2), (3, .int x3)]) hx hb dX12_deal_68 hl (by decide) rfl (fun ls hl => ?_)
        refine lv_aload_n hx hb dX12_deal_70 rfl (lv_at hl 2 rfl) ?_
        refine gf_X12_72 hC rfl hK hP 0 rfl rfl dX12_deal_71 ?_
        refine lv_iload_n hx hb dX12_deal_74 rfl (lv_at hl 3 rfl) ?_
        refine ald hC hK hP 2 rfl (vp_in_nI (by omega) (by omega)) (k := jt) (nI_clamp (by omega)) (v := fnsh jt) rfl dX12_deal_75 ?_
        refine lv_topi (fun x6298 ex6298 => ?_)
        refine lv_iconst (v := 2) hx hb dX12_deal_76 (by decide) ?_
        refine lv_icmp_ne (tgt := 84) hx hb dX12_deal_77 (by decide) (fun c9 => absurd (ex6298.trans hko9) c9) (fun _ => ?_)
        refine lv_iconst (v := 1) hx hb dX12_deal_80 (by decide) ?_
        refine lv_goto (tgt := 85) hx hb dX12_deal_81 (by decide) ?_
        refine lv_istore (lv' := [(6, .int 1), (5, .int 0), (4, .int 5), (0, .ref h0), (1, .int (nI jt)), (2, .int x2), (3, .int x3)]) hx hb dX12_deal_85 hl (by decide) rfl (fun ls hl => ?_)
        refine lv_aload_n hx hb dX12_deal_87 rfl (lv_at hl 3 rfl) ?_
        refine lv_iload hx hb dX12_deal_88 (lv_at hl 1 rfl) ?_
        refine lv_if_eq (tgt := 105) hx hb dX12_deal_90 (by decide) (fun _ => ?_) (fun c9 => absurd (by decide) c9)
        refine lv_iload hx hb dX12_deal_105 (lv_at hl 0 rfl) ?_
        refine lv_if_eq (tgt := 122) hx hb dX12_deal_107 (by decide) (fun c9 => absurd c9 (by decide)) (fun _ => ?_)
        refine lv_aload_n hx hb dX12_deal_110 rfl (lv_at hl 3 rfl) ?_
        refine lv_aload_n hx hb dX12_deal_111 rfl (lv_at hl 3 rfl) ?_
        refine gf_X12_378 hC rfl hK hP 0 rfl rfl dX12_deal_112 ?_
        refine lv_iconst (v := 0) hx hb dX12_deal_115 (by decide) ?_
        refine pV hC hK hl hP hD (m_saying l G h0 jno 0 nw nk mhasKept nt mtaped nr mrowMany mroundOf mroundFrom mouts nm mfromHour mtoHour ns mfrom mto msort misFault mdeep mcoded mlines nl nc nF np ntr nb mbestCost nso nsi nit nsh nsf nss nrc 0 5 (nI jno) mwhose msize misParted fnw (by omega) (by omega)) si_X12_114 [0, 1] rfl rfl (by decide) rfl rfl rfl rfl rfl (Nat.le_of_ble_eq_true rfl) ⟨Nat.le_of_ble_eq_true rfl, Nat.le_of_ble_eq_true rfl⟩ ⟨by first | exact Nat.le_of_ble_eq_true rfl | exact Nat.zero_le _, by first | exact Nat.le_of_ble_eq_true rfl | exact Nat.zero_le _⟩ dX12_deal_116 (fun r6299 hr6299 => ?_)
        obtain rfl := hr6299
        refine lv_goto (tgt := 139) hx hb dX12_deal_119 (by decide) ?_
        refine pf_X12_375 hC rfl hK hP hD hS 0 (ws' := [(h0, .inr (12, [.ref nw, .ref nk, .int mhasKept, .ref nt, .int mtaped, .ref nr, .int mrowMany, .int mroundOf, .int mroundFrom, .int mouts, .ref nm, .int mfromHour, .int mtoHour, .ref ns, .int mfrom, .int mto, .int msort, .int misFault, .int mdeep, .int mcoded, .int mlines, .ref nl, .ref nc, .ref nF, .ref np, .ref ntr, .ref nb, .int mbestCost, .ref nso, .ref nsi, .ref nit, .ref nsh, .ref nsf, .ref nss, .ref nrc, .int 0, .int 5, .int (nI jno), .int (fnw (1424 + 8 * jno + 0)), .int msize, .int misParted])), (nw, .inl (G.2.1, 1662, .inl fnw)), (nsh, .inl (G.2.1, 4, .inl fnsh)), (nsf, .inl (G.2.1, 4, .inl fnsf)), (nrc, .inl (G.2.1, 30, .inl fnrc))]) rfl (Nat.le_of_ble_eq_true rfl) rfl rfl rfl dX12_deal_139 (fun H locs hP hD hS => ?_)
        refine lv_aload_n hx hb dX12_deal_142 rfl (lv_at hl 3 rfl) ?_
        refine lv_iload hx hb dX12_deal_143 (lv_at hl 1 rfl) ?_
        refine lv_if_eq (tgt := 160) hx hb dX12_deal_145 (by decide) (fun _ => ?_) (fun c9 => absurd (by decide) c9)
        refine lv_iload hx hb dX12_deal_160 (lv_at hl 0 rfl) ?_
        refine lv_if_eq (tgt := 177) hx hb dX12_deal_162 (by decide) (fun c9 => absurd c9 (by decide)) (fun _ => ?_)
        refine lv_aload_n hx hb dX12_deal_165 rfl (lv_at hl 3 rfl) ?_
        refine lv_aload_n hx hb dX12_deal_166 rfl (lv_at hl 3 rfl) ?_
        refine gf_X12_378 hC rfl hK hP 0 rfl rfl dX12_deal_167 ?_
        refine lv_iconst (v := 4) hx hb dX12_deal_170 (by decide) ?_
        refine pV hC hK hl hP hD (m_saying l G h0 jno 4 nw nk mhasKept nt mtaped nr mrowMany mroundOf mroundFrom mouts nm mfromHour mtoHour ns mfrom mto msort misFault mdeep mcoded mlines nl nc nF np ntr nb mbestCost nso nsi nit nsh nsf nss nrc 0 5 (nI jno) (fnw (1424 + 8 * jno + 0)) msize misParted fnw (by omega) (by omega)) si_X12_114 [0, 1] rfl rfl (by decide) rfl rfl rfl rfl rfl (Nat.le_of_ble_eq_true rfl) ⟨Nat.le_of_ble_eq_true rfl, Nat.le_of_ble_eq_true rfl⟩ ⟨by first | exact Nat.le_of_ble_eq_true rfl | exact Nat.zero_le _, by first | exact Nat.le_of_ble_eq_true rfl | exact Nat.zero_le _⟩ dX12_deal_171 (fun r6301 hr6301 => ?_)
        obtain rfl := hr6301
        refine lv_goto (tgt := 194) hx hb dX12_deal_174 (by decide) ?_
        refine pf_X12_369 hC rfl hK hP hD hS 0 (ws' := [(h0, .inr (12, [.ref nw, .ref nk, .int mhasKept, .ref nt, .int mtaped, .ref nr, .int mrowMany, .int mroundOf, .int mroundFrom, .int mouts, .ref nm, .int mfromHour, .int mtoHour, .ref ns, .int mfrom, .int mto, .int msort, .int misFault, .int mdeep, .int mcoded, .int mlines, .ref nl, .ref nc, .ref nF, .ref np, .ref ntr, .ref nb, .int mbestCost, .ref nso, .ref nsi, .ref nit, .ref nsh, .ref nsf, .ref nss, .ref nrc, .int 0, .int 5, .int (nI jno), .int (fnw (1424 + 8 * jno + 0)), .int (fnw (1424 + 8 * jno + 4)), .int misParted])), (nw, .inl (G.2.1, 1662, .inl fnw)), (nsh, .inl (G.2.1, 4, .inl fnsh)), (nsf, .inl (G.2.1, 4, .inl fnsf)), (nrc, .inl (G.2.1, 30, .inl fnrc))]) rfl (Nat.le_of_ble_eq_true rfl) rfl rfl rfl dX12_deal_194 (fun H locs hP hD hS => ?_)
        refine lv_aload_n hx hb dX12_deal_197 rfl (lv_at hl 3 rfl) ?_
        refine lv_iconst (v := 0) hx hb dX12_deal_198 (by decide) ?_
        refine pf_X12_380 hC rfl hK hP hD hS 0 (ws' := [(h0, .inr (12, [.ref nw, .ref nk, .int mhasKept, .ref nt, .int mtaped, .ref nr, .int mrowMany, .int mroundOf, .int mroundFrom, .int mouts, .ref nm, .int mfromHour, .int mtoHour, .ref ns, .int mfrom, .int mto, .int msort, .int misFault, .int mdeep, .int mcoded, .int mlines, .ref nl, .ref nc, .ref nF, .ref np, .ref ntr, .ref nb, .int mbestCost, .ref nso, .ref nsi, .ref nit, .ref nsh, .ref nsf, .ref nss, .ref nrc, .int 0, .int 5, .int (nI jno), .int (fnw (1424 + 8 * jno + 0)), .int (fnw (1424 + 8 * jno + 4)), .int 0])), (nw, .inl (G.2.1, 1662, .inl fnw)), (nsh, .inl (G.2.1, 4, .inl fnsh)), (nsf, .inl (G.2.1, 4, .inl fnsf)), (nrc, .inl (G.2.1, 30, .inl fnrc))]) rfl (Nat.le_of_ble_eq_true rfl) rfl (by decide +kernel) (by decide +kernel) dX12_deal_199 (fun H locs hP hD hS => ?_)
        obtain ⟨jdl, hjdl, rfl⟩ := Wi_nat (N := 3) (by decide) a6153
        rcases (show jdl = 0 ∨ jdl = 1 ∨ jdl = 2 ∨ jdl = 3 by omega) with rfl | rfl | rfl | rfl
        · refine lv_aload_n hx hb dX12_deal_202 rfl (lv_at hl 3 rfl) ?_
          refine lv_iload_n hx hb dX12_deal_203 rfl (lv_at hl 5 rfl) ?_
          refine lv_iload_n hx hb dX12_deal_204 rfl (lv_at hl 6 rfl) ?_
          refine iV (wr := [(nw, .inl (G.2.1, 1662, .inl fnw)), (nsh, .inl (G.2.1, 4, .inl fnsh)), (nsf, .inl (G.2.1, 4, .inl fnsf))]) hC hK hl hP hD hS hA (m_dealt0 l G h0 x3 nw nk mhasKept nt mtaped nr mrowMany mroundOf mroundFrom mouts nm mfromHour mtoHour ns mfrom mto msort misFault mdeep mcoded mlines nl nc nF np ntr nb mbestCost nso nsi nit nsh nsf nss nrc 0 5 (nI jno) (fnw (1424 + 8 * jno + 0)) (fnw (1424 + 8 * jno + 4)) 0 fnrc (by omega) (by omega)) si_X12_372 [0, 4] [1, 2, 3] rfl rfl (by decide) rfl (by decide) (by decide) rfl rfl rfl rfl rfl (Nat.le_of_ble_eq_true rfl) ⟨Nat.le_of_ble_eq_true rfl, Nat.le_of_ble_eq_true rfl⟩ ⟨Nat.le_of_ble_eq_true rfl, Nat.le_of_ble_eq_true rfl⟩ dX12_deal_205 (fun r6303 u6304 H locs hr6303 hP hD hS => ?_)
          obtain ⟨jr16305, ip16306, gtrc6307⟩ := u6304
          try dsimp only at hr6303
          have hP : va_P G.1 vwCl [(nw, .inl (G.2.1, 1662, .inl fnw)), (nsh, .inl (G.2.1, 4, .inl fnsh)), (nsf, .inl (G.2.1, 4, .inl fnsf)), (h0, .inr (12, [.ref nw, .ref nk, .int mhasKept, .ref nt, .int mtaped, .ref nr, .int mrowMany, .int mroundOf, .int mroundFrom, .int mouts, .ref nm, .int mfromHour, .int mtoHour, .ref ns, .int mfrom, .int mto, .int msort, .int misFault, .int mdeep, .int mcoded, .int mlines, .ref nl, .ref nc, .ref nF, .ref np, .ref ntr, .ref nb, .int mbestCost, .ref nso, .ref nsi, .ref nit, .ref nsh, .ref nsf, .ref nss, .ref nrc, .int (nI jr16305), .int 5, .int (nI jno), .int (fnw (1424 + 8 * jno + 0)), .int (fnw (1424 + 8 * jno + 4)), .int ip16306])), (nrc, .inl (G.2.1, 30, .inl gtrc6307))] H := hP
          have hD : va_D A [(nw, .inl (G.2.1, 1662, .inl fnw)), (nsh, .inl (G.2.1, 4, .inl fnsh)), (nsf, .inl (G.2.1, 4, .inl fnsf)), (h0, .inr (12, [.ref nw, .ref nk, .int mhasKept, .ref nt, .int mtaped, .ref nr, .int mrowMany, .int mroundOf, .int mroundFrom, .int mouts, .ref nm, .int mfromHour, .int mtoHour, .ref ns, .int mfrom, .int mto, .int msort, .int misFault, .int mdeep, .int mcoded, .int mlines, .ref nl, .ref nc, .ref nF, .ref np, .ref ntr, .ref nb, .int mbestCost, .ref nso, .ref nsi, .ref nit, .ref nsh, .ref nsf, .ref nss, .ref nrc, .int (nI jr16305), .int 5, .int (nI jno), .int (fnw (1424 + 8 * jno + 0)), .int (fnw (1424 + 8 * jno + 4)), .int ip16306])), (nrc, .inl (G.2.1, 30, .inl gtrc6307))] := hD
          obtain ⟨hr6303, w6308⟩ := hr6303
          refine lv_istore (lv' := [(7, .int r6303), (6, .int 1), (5, .int 0), (4, .int 5), (0, .ref h0), (1, .int (nI jt)), (2, .int 0), (3, .int x3)]) hx hb dX12_deal_208 hl (by decide) rfl (fun ls hl => ?_)
          refine lv_aload_n hx hb dX12_deal_210 rfl (lv_at hl 4 rfl) ?_
          refine gf_X12_380 hC rfl hK hP 3 rfl rfl dX12_deal_211 ?_
          refine lv_if_eq (tgt := 222) hx hb dX12_deal_214 (by decide) (fun c_214_6309 => ?_) (fun c_214_6309 => ?_)
          · refine lv_iload hx hb dX12_deal_222 (lv_at hl 0 rfl) ?_
            exact RI (v := r6303) hC hP hD hS [3, 0, 1, 2, 4] (jr16305, 5, nI jno, fnw (1424 + 8 * jno + 0), fnw (1424 + 8 * jno + 4), ip16306, gtrc6307) rfl rfl (by decide) (⟨trivial, by omega⟩) rfl dX12_deal_224
          · refine lv_bipush (v := (-15)) hx hb dX12_deal_217 (by decide) ?_
            refine lv_goto (tgt := 224) hx hb dX12_deal_219 (by decide) ?_
            exact RI (v := (-15)) hC hP hD hS [3, 0, 1, 2, 4] (jr16305, 5, nI jno, fnw (1424 + 8 * jno + 0), fnw (1424 + 8 * jno + 4), ip16306, gtrc6307) rfl rfl (by decide) (⟨trivial, by omega⟩) rfl dX12_deal_224
        · refine lv_aload_n hx hb dX12_deal_202 rfl (lv_at hl 3 rfl) ?_
          refine lv_iload_n hx hb dX12_deal_203 rfl (lv_at hl 5 rfl) ?_
          refine lv_iload_n hx hb dX12_deal_204 rfl (lv_at hl 6 rfl) ?_
          refine iV (wr := [(nw, .inl (G.2.1, 1662, .inl fnw)), (nsh, .inl (G.2.1, 4, .inl fnsh)), (nsf, .inl (G.2.1, 4, .inl fnsf))]) hC hK hl hP hD hS hA (m_dealt1 l G h0 x3 nw nk mhasKept nt mtaped nr mrowMany mroundOf mroundFrom mouts nm mfromHour mtoHour ns mfrom mto msort misFault mdeep mcoded mlines nl nc nF np ntr nb mbestCost nso nsi nit nsh nsf nss nrc 0 5 (nI jno) (fnw (1424 + 8 * jno + 0)) (fnw (1424 + 8 * jno + 4)) 0 fnrc (by omega) (by omega)) si_X12_372 [0, 4] [1, 2, 3] rfl rfl (by decide) rfl (by decide) (by decide) rfl rfl rfl rfl rfl (Nat.le_of_ble_eq_true rfl) ⟨Nat.le_of_ble_eq_true rfl, Nat.le_of_ble_eq_true rfl⟩ ⟨Nat.le_of_ble_eq_true rfl, Nat.le_of_ble_eq_true rfl⟩ dX12_deal_205 (fun r6310 u6311 H locs hr6310 hP hD hS => ?_)
          obtain ⟨jr16312, ip16313, gtrc6314⟩ := u6311
          try dsimp only at hr6310
          have hP : va_P G.1 vwCl [(nw, .inl (G.2.1, 1662, .inl fnw)), (nsh, .inl (G.2.1, 4, .inl fnsh)), (nsf, .inl (G.2.1, 4, .inl fnsf)), (h0, .inr (12, [.ref nw, .ref nk, .int mhasKept, .ref nt, .int mtaped, .ref nr, .int mrowMany, .int mroundOf, .int mroundFrom, .int mouts, .ref nm, .int mfromHour, .int mtoHour, .ref ns, .int mfrom, .int mto, .int msort, .int misFault, .int mdeep, .int mcoded, .int mlines, .ref nl, .ref nc, .ref nF, .ref np, .ref ntr, .ref nb, .int mbestCost, .ref nso, .ref nsi, .ref nit, .ref nsh, .ref nsf, .ref nss, .ref nrc, .int (nI jr16312), .int 5, .int (nI jno), .int (fnw (1424 + 8 * jno + 0)), .int (fnw (1424 + 8 * jno + 4)), .int ip16313])), (nrc, .inl (G.2.1, 30, .inl gtrc6314))] H := hP
          have hD : va_D A [(nw, .inl (G.2.1, 1662, .inl fnw)), (nsh, .inl (G.2.1, 4, .inl fnsh)), (nsf, .inl (G.2.1, 4, .inl fnsf)), (h0, .inr (12, [.ref nw, .ref nk, .int mhasKept, .ref nt, .int mtaped, .ref nr, .int mrowMany, .int mroundOf, .int mroundFrom, .int mouts, .ref nm, .int mfromHour, .int mtoHour, .ref ns, .int mfrom, .int mto, .int msort, .int misFault, .int mdeep, .int mcoded, .int mlines, .ref nl, .ref nc, .ref nF, .ref np, .ref ntr, .ref nb, .int mbestCost, .ref nso, .ref nsi, .ref nit, .ref nsh, .ref nsf, .ref nss, .ref nrc, .int (nI jr16312), .int 5, .int (nI jno), .int (fnw (1424 + 8 * jno + 0)), .int (fnw (1424 + 8 * jno + 4)), .int ip16313])), (nrc, .inl (G.2.1, 30, .inl gtrc6314))] := hD
          obtain ⟨hr6310, w6315⟩ := hr6310
          refine lv_istore (lv' := [(7, .int r6310), (6, .int 1), (5, .int 0), (4, .int 5), (0, .ref h0), (1, .int (nI jt)), (2, .int 1), (3, .int x3)]) hx hb dX12_deal_208 hl (by decide) rfl (fun ls hl => ?_)
          refine lv_aload_n hx hb dX12_deal_210 rfl (lv_at hl 4 rfl) ?_
          refine gf_X12_380 hC rfl hK hP 3 rfl rfl dX12_deal_211 ?_
          refine lv_if_eq (tgt := 222) hx hb dX12_deal_214 (by decide) (fun c_214_6316 => ?_) (fun c_214_6316 => ?_)
          · refine lv_iload hx hb dX12_deal_222 (lv_at hl 0 rfl) ?_
            exact RI (v := r6310) hC hP hD hS [3, 0, 1, 2, 4] (jr16312, 5, nI jno, fnw (1424 + 8 * jno + 0), fnw (1424 + 8 * jno + 4), ip16313, gtrc6314) rfl rfl (by decide) (⟨trivial, by omega⟩) rfl dX12_deal_224
          · refine lv_bipush (v := (-15)) hx hb dX12_deal_217 (by decide) ?_
            refine lv_goto (tgt := 224) hx hb dX12_deal_219 (by decide) ?_
            exact RI (v := (-15)) hC hP hD hS [3, 0, 1, 2, 4] (jr16312, 5, nI jno, fnw (1424 + 8 * jno + 0), fnw (1424 + 8 * jno + 4), ip16313, gtrc6314) rfl rfl (by decide) (⟨trivial, by omega⟩) rfl dX12_deal_224
        · refine lv_aload_n hx hb dX12_deal_202 rfl (lv_at hl 3 rfl) ?_
          refine lv_iload_n hx hb dX12_deal_203 rfl (lv_at hl 5 rfl) ?_
          refine lv_iload_n hx hb dX12_deal_204 rfl (lv_at hl 6 rfl) ?_
          refine iV (wr := [(nw, .inl (G.2.1, 1662, .inl fnw)), (nsh, .inl (G.2.1, 4, .inl fnsh)), (nsf, .inl (G.2.1, 4, .inl fnsf))]) hC hK hl hP hD hS hA (m_dealt2 l G h0 x3 nw nk mhasKept nt mtaped nr mrowMany mroundOf mroundFrom mouts nm mfromHour mtoHour ns mfrom mto msort misFault mdeep mcoded mlines nl nc nF np ntr nb mbestCost nso nsi nit nsh nsf nss nrc 0 5 (nI jno) (fnw (1424 + 8 * jno + 0)) (fnw (1424 + 8 * jno + 4)) 0 fnrc (by omega) (by omega)) si_X12_372 [0, 4] [1, 2, 3] rfl rfl (by decide) rfl (by decide) (by decide) rfl rfl rfl rfl rfl (Nat.le_of_ble_eq_true rfl) ⟨Nat.le_of_ble_eq_true rfl, Nat.le_of_ble_eq_true rfl⟩ ⟨Nat.le_of_ble_eq_true rfl, Nat.le_of_ble_eq_true rfl⟩ dX12_deal_205 (fun r6317 u6318 H locs hr6317 hP hD hS => ?_)
          obtain ⟨jr16319, ip16320, gtrc6321⟩ := u6318
          try dsimp only at hr6317
          have hP : va_P G.1 vwCl [(nw, .inl (G.2.1, 1662, .inl fnw)), (nsh, .inl (G.2.1, 4, .inl fnsh)), (nsf, .inl (G.2.1, 4, .inl fnsf)), (h0, .inr (12, [.ref nw, .ref nk, .int mhasKept, .ref nt, .int mtaped, .ref nr, .int mrowMany, .int mroundOf, .int mroundFrom, .int mouts, .ref nm, .int mfromHour, .int mtoHour, .ref ns, .int mfrom, .int mto, .int msort, .int misFault, .int mdeep, .int mcoded, .int mlines, .ref nl, .ref nc, .ref nF, .ref np, .ref ntr, .ref nb, .int mbestCost, .ref nso, .ref nsi, .ref nit, .ref nsh, .ref nsf, .ref nss, .ref nrc, .int (nI jr16319), .int 5, .int (nI jno), .int (fnw (1424 + 8 * jno + 0)), .int (fnw (1424 + 8 * jno + 4)), .int ip16320])), (nrc, .inl (G.2.1, 30, .inl gtrc6321))] H := hP
          have hD : va_D A [(nw, .inl (G.2.1, 1662, .inl fnw)), (nsh, .inl (G.2.1, 4, .inl fnsh)), (nsf, .inl (G.2.1, 4, .inl fnsf)), (h0, .inr (12, [.ref nw, .ref nk, .int mhasKept, .ref nt, .int mtaped, .ref nr, .int mrowMany, .int mroundOf, .int mroundFrom, .int mouts, .ref nm, .int mfromHour, .int mtoHour, .ref ns, .int mfrom, .int mto, .int msort, .int misFault, .int mdeep, .int mcoded, .int mlines, .ref nl, .ref nc, .ref nF, .ref np, .ref ntr, .ref nb, .int mbestCost, .ref nso, .ref nsi, .ref nit, .ref nsh, .ref nsf, .ref nss, .ref nrc, .int (nI jr16319), .int 5, .int (nI jno), .int (fnw (1424 + 8 * jno + 0)), .int (fnw (1424 + 8 * jno + 4)), .int ip16320])), (nrc, .inl (G.2.1, 30, .inl gtrc6321))] := hD
          obtain ⟨hr6317, w6322⟩ := hr6317
          refine lv_istore (lv' := [(7, .int r6317), (6, .int 1), (5, .int 0), (4, .int 5), (0, .ref h0), (1, .int (nI jt)), (2, .int 2), (3, .int x3)]) hx hb dX12_deal_208 hl (by decide) rfl (fun ls hl => ?_)
          refine lv_aload_n hx hb dX12_deal_210 rfl (lv_at hl 4 rfl) ?_
          refine gf_X12_380 hC rfl hK hP 3 rfl rfl dX12_deal_211 ?_
          refine lv_if_eq (tgt := 222) hx hb dX12_deal_214 (by decide) (fun c_214_6323 => ?_) (fun c_214_6323 => ?_)
          · refine lv_iload hx hb dX12_deal_222 (lv_at hl 0 rfl) ?_
            exact RI (v := r6317) hC hP hD hS [3, 0, 1, 2, 4] (jr16319, 5, nI jno, fnw (1424 + 8 * jno + 0), fnw (1424 + 8 * jno + 4), ip16320, gtrc6321) rfl rfl (by decide) (⟨trivial, by omega⟩) rfl dX12_deal_224
          · refine lv_bipush (v := (-15)) hx hb dX12_deal_217 (by decide) ?_
            refine lv_goto (tgt := 224) hx hb dX12_deal_219 (by decide) ?_
            exact RI (v := (-15)) hC hP hD hS [3, 0, 1, 2, 4] (jr16319, 5, nI jno, fnw (1424 + 8 * jno + 0), fnw (1424 + 8 * jno + 4), ip16320, gtrc6321) rfl rfl (by decide) (⟨trivial, by omega⟩) rfl dX12_deal_224
        · refine lv_aload_n hx hb dX12_deal_202 rfl (lv_at hl 3 rfl) ?_
          refine lv_iload_n hx hb dX12_deal_203 rfl (lv_at hl 5 rfl) ?_
          refine lv_iload_n hx hb dX12_deal_204 rfl (lv_at hl 6 rfl) ?_
          refine iV (wr := [(nw, .inl (G.2.1, 1662, .inl fnw)), (nsh, .inl (G.2.1, 4, .inl fnsh)), (nsf, .inl (G.2.1, 4, .inl fnsf))]) hC hK hl hP hD hS hA (m_dealt3 l G h0 x3 nw nk mhasKept nt mtaped nr mrowMany mroundOf mroundFrom mouts nm mfromHour mtoHour ns mfrom mto msort misFault mdeep mcoded mlines nl nc nF np ntr nb mbestCost nso nsi nit nsh nsf nss nrc 0 5 (nI jno) (fnw (1424 + 8 * jno + 0)) (fnw (1424 + 8 * jno + 4)) 0 fnrc (by omega) (by omega)) si_X12_372 [0, 4] [1, 2, 3] rfl rfl (by decide) rfl (by decide) (by decide) rfl rfl rfl rfl rfl (Nat.le_of_ble_eq_true rfl) ⟨Nat.le_of_ble_eq_true rfl, Nat.le_of_ble_eq_true rfl⟩ ⟨Nat.le_of_ble_eq_true rfl, Nat.le_of_ble_eq_true rfl⟩ dX12_deal_205 (fun r6324 u6325 H locs hr6324 hP hD hS => ?_)
          obtain ⟨jr16326, ip16327, gtrc6328⟩ := u6325
          try dsimp only at hr6324
          have hP : va_P G.1 vwCl [(nw, .inl (G.2.1, 1662, .inl fnw)), (nsh, .inl (G.2.1, 4, .inl fnsh)), (nsf, .inl (G.2.1, 4, .inl fnsf)), (h0, .inr (12, [.ref nw, .ref nk, .int mhasKept, .ref nt, .int mtaped, .ref nr, .int mrowMany, .int mroundOf, .int mroundFrom, .int mouts, .ref nm, .int mfromHour, .int mtoHour, .ref ns, .int mfrom, .int mto, .int msort, .int misFault, .int mdeep, .int mcoded, .int mlines, .ref nl, .ref nc, .ref nF, .ref np, .ref ntr, .ref nb, .int mbestCost, .ref nso, .ref nsi, .ref nit, .ref nsh, .ref nsf, .ref nss, .ref nrc, .int (nI jr16326), .int 5, .int (nI jno), .int (fnw (1424 + 8 * jno + 0)), .int (fnw (1424 + 8 * jno + 4)), .int ip16327])), (nrc, .inl (G.2.1, 30, .inl gtrc6328))] H := hP
          have hD : va_D A [(nw, .inl (G.2.1, 1662, .inl fnw)), (nsh, .inl (G.2.1, 4, .inl fnsh)), (nsf, .inl (G.2.1, 4, .inl fnsf)), (h0, .inr (12, [.ref nw, .ref nk, .int mhasKept, .ref nt, .int mtaped, .ref nr, .int mrowMany, .int mroundOf, .int mroundFrom, .int mouts, .ref nm, .int mfromHour, .int mtoHour, .ref ns, .int mfrom, .int mto, .int msort, .int misFault, .int mdeep, .int mcoded, .int mlines, .ref nl, .ref nc, .ref nF, .ref np, .ref ntr, .ref nb, .int mbestCost, .ref nso, .ref nsi, .ref nit, .ref nsh, .ref nsf, .ref nss, .ref nrc, .int (nI jr16326), .int 5, .int (nI jno), .int (fnw (1424 + 8 * jno + 0)), .int (fnw (1424 + 8 * jno + 4)), .int ip16327])), (nrc, .inl (G.2.1, 30, .inl gtrc6328))] := hD
          obtain ⟨hr6324, w6329⟩ := hr6324
          refine lv_istore (lv' := [(7, .int r6324), (6, .int 1), (5, .int 0), (4, .int 5), (0, .ref h0), (1, .int (nI jt)), (2, .int 3), (3, .int x3)]) hx hb dX12_deal_208 hl (by decide) rfl (fun ls hl => ?_)
          refine lv_aload_n hx hb dX12_deal_210 rfl (lv_at hl 4 rfl) ?_
          refine gf_X12_380 hC rfl hK hP 3 rfl rfl dX12_deal_211 ?_
          refine lv_if_eq (tgt := 222) hx hb dX12_deal_214 (by decide) (fun c_214_6330 => ?_) (fun c_214_6330 => ?_)
          · refine lv_iload hx hb dX12_deal_222 (lv_at hl 0 rfl) ?_
            exact RI (v := r6324) hC hP hD hS [3, 0, 1, 2, 4] (jr16326, 5, nI jno, fnw (1424 + 8 * jno + 0), fnw (1424 + 8 * jno + 4), ip16327, gtrc6328) rfl rfl (by decide) (⟨trivial, by omega⟩) rfl dX12_deal_224
          · refine lv_bipush (v := (-15)) hx hb dX12_deal_217 (by decide) ?_
            refine lv_goto (tgt := 224) hx hb dX12_deal_219 (by decide) ?_
            exact RI (v := (-15)) hC hP hD hS [3, 0, 1, 2, 4] (jr16326, 5, nI jno, fnw (1424 + 8 * jno + 0), fnw (1424 + 8 * jno + 4), ip16327, gtrc6328) rfl rfl (by decide) (⟨trivial, by omega⟩) rfl dX12_deal_224
      · refine lv_istore (lv' := [(4, .int 6), (0, .ref h0), (1, .int (nI jt)), (2, .int x2), (3, .int x3)]) hx hb dX12_deal_28 hl (by decide) rfl (fun ls hl => ?_)
        refine lv_iload hx hb dX12_deal_30 (lv_at hl 0 rfl) ?_
        refine lv_if_ge (tgt := 37) hx hb dX12_deal_32 (by decide) (fun _ => ?_) (fun c9 => absurd (by decide) c9)
        refine lv_aload_n hx hb dX12_deal_37 rfl (lv_at hl 1 rfl) ?_
        refine lv_iload hx hb dX12_deal_38 (lv_at hl 0 rfl) ?_
        refine pf_X12_354 hC rfl hK hP hD hS 0 (ws' := [(h0, .inr (12, [.ref nw, .ref nk, .int mhasKept, .ref nt, .int mtaped, .ref nr, .int mrowMany, .int mroundOf, .int mroundFrom, .int mouts, .ref nm, .int mfromHour, .int mtoHour, .ref ns, .int mfrom, .int mto, .int msort, .int misFault, .int mdeep, .int mcoded, .int mlines, .ref nl, .ref nc, .ref nF, .ref np, .ref ntr, .ref nb, .int mbestCost, .ref nso, .ref nsi, .ref nit, .ref nsh, .ref nsf, .ref nss, .ref nrc, .int 0, .int 6, .int mnumber, .int mwhose, .int msize, .int misParted])), (nw, .inl (G.2.1, 1662, .inl fnw)), (nsh, .inl (G.2.1, 4, .inl fnsh)), (nsf, .inl (G.2.1, 4, .inl fnsf)), (nrc, .inl (G.2.1, 30, .inl fnrc))]) rfl (Nat.le_of_ble_eq_true rfl) rfl rfl rfl dX12_deal_40 (fun H locs hP hD hS => ?_)
        refine lv_aload_n hx hb dX12_deal_43 rfl (lv_at hl 1 rfl) ?_
        refine lv_aload_n hx hb dX12_deal_44 rfl (lv_at hl 1 rfl) ?_
        refine gf_X12_75 hC rfl hK hP 0 rfl rfl dX12_deal_45 ?_
        refine lv_iload_n hx hb dX12_deal_48 rfl (lv_at hl 2 rfl) ?_
        refine ald hC hK hP 3 rfl (vp_in_nI (by omega) (by omega)) (k := jt) (nI_clamp (by omega)) (v := fnsf jt) rfl dX12_deal_49 ?_
        refine lv_topi (fun x6331 ex6331 => ?_)
        obtain ⟨hko9, jno, hjno, ejno⟩ := a6155
        refine eqi (x1 := nI jno) (ex6331.trans ejno) ?_
        refine pf_X12_378 hC rfl hK hP hD hS 0 (ws' := [(h0, .inr (12, [.ref nw, .ref nk, .int mhasKept, .ref nt, .int mtaped, .ref nr, .int mrowMany, .int mroundOf, .int mroundFrom, .int mouts, .ref nm, .int mfromHour, .int mtoHour, .ref ns, .int mfrom, .int mto, .int msort, .int misFault, .int mdeep, .int mcoded, .int mlines, .ref nl, .ref nc, .ref nF, .ref np, .ref ntr, .ref nb, .int mbestCost, .ref nso, .ref nsi, .ref nit, .ref nsh, .ref nsf, .ref nss, .ref nrc, .int 0, .int 6, .int (nI jno), .int mwhose, .int msize, .int misParted])), (nw, .inl (G.2.1, 1662, .inl fnw)), (nsh, .inl (G.2.1, 4, .inl fnsh)), (nsf, .inl (G.2.1, 4, .inl fnsf)), (nrc, .inl (G.2.1, 30, .inl fnrc))]) rfl (Nat.le_of_ble_eq_true rfl) rfl rfl rfl dX12_deal_50 (fun H locs hP hD hS => ?_)
        refine lv_aload_n hx hb dX12_deal_53 rfl (lv_at hl 1 rfl) ?_
        refine gf_X12_72 hC rfl hK hP 0 rfl rfl dX12_deal_54 ?_
        refine lv_iload_n hx hb dX12_deal_57 rfl (lv_at hl 2 rfl) ?_
        refine ald hC hK hP 2 rfl (vp_in_nI (by omega) (by omega)) (k := jt) (nI_clamp (by omega)) (v := fnsh jt) rfl dX12_deal_58 ?_
        refine lv_topi (fun x6332 ex6332 => ?_)
        refine lv_iconst (v := 1) hx hb dX12_deal_59 (by decide) ?_
        refine lv_icmp_ne (tgt := 67) hx hb dX12_deal_60 (by decide) (fun _ => ?_) (fun c9 => absurd c9 (fun h9 => absurd (hko9.symm.trans ((ex6332.symm).trans h9)) (by decide)))
        refine lv_iconst (v := 0) hx hb dX12_deal_67 (by decide) ?_
        refine lv_istore (lv' := [(5, .int 0), (4, .int 6), (0, .ref h0), (1, .int (nI jt)), (2, .int x2), (3, .int x3)]) hx hb dX12_deal_68 hl (by decide) rfl (fun ls hl => ?_)
        refine lv_aload_n hx hb dX12_deal_70 rfl (lv_at hl 2 rfl) ?_
        refine gf_X12_72 hC rfl hK hP 0 rfl rfl dX12_deal_71 ?_
        refine lv_iload_n hx hb dX12_deal_74 rfl (lv_at hl 3 rfl) ?_
        refine ald hC hK hP 2 rfl (vp_in_nI (by omega) (by omega)) (k := jt) (nI_clamp (by omega)) (v := fnsh jt) rfl dX12_deal_75 ?_
        refine lv_topi (fun x6333 ex6333 => ?_)
        refine lv_iconst (v := 2) hx hb dX12_deal_76 (by decide) ?_
        refine lv_icmp_ne (tgt := 84) hx hb dX12_deal_77 (by decide) (fun _ => ?_) (fun c9 => absurd c9 (fun h9 => absurd (hko9.symm.trans ((ex6333.symm).trans h9)) (by decide)))
        refine lv_iconst (v := 0) hx hb dX12_deal_84 (by decide) ?_
        refine lv_istore (lv' := [(6, .int 0), (5, .int 0), (4, .int 6), (0, .ref h0), (1, .int (nI jt)), (2, .int x2), (3, .int x3)]) hx hb dX12_deal_85 hl (by decide) rfl (fun ls hl => ?_)
        refine lv_aload_n hx hb dX12_deal_87 rfl (lv_at hl 3 rfl) ?_
        refine lv_iload hx hb dX12_deal_88 (lv_at hl 1 rfl) ?_
        refine lv_if_eq (tgt := 105) hx hb dX12_deal_90 (by decide) (fun _ => ?_) (fun c9 => absurd (by decide) c9)
        refine lv_iload hx hb dX12_deal_105 (lv_at hl 0 rfl) ?_
        refine lv_if_eq (tgt := 122) hx hb dX12_deal_107 (by decide) (fun _ => ?_) (fun c9 => absurd (by decide) c9)
        refine lv_aload_n hx hb dX12_deal_122 rfl (lv_at hl 3 rfl) ?_
        refine gf_X12_9 hC rfl hK hP 0 rfl rfl dX12_deal_123 ?_
        refine lv_sipush (v := 1552) hx hb dX12_deal_126 (by decide) ?_
        refine lv_iconst (v := 4) hx hb dX12_deal_129 (by decide) ?_
        refine lv_aload_n hx hb dX12_deal_130 rfl (lv_at hl 3 rfl) ?_
        refine gf_X12_378 hC rfl hK hP 0 rfl rfl dX12_deal_131 ?_
        refine lv_imul hx hb dX12_deal_134 ?_
        refine eqi (x1 := nI (4 * jno)) (nI_mul 4 jno) ?_
        refine lv_iadd hx hb dX12_deal_135 ?_
        refine eqi (x1 := nI (1552 + 4 * jno)) (nI_add 1552 (4 * jno)) ?_
        refine lv_iconst (v := 0) hx hb dX12_deal_136 (by decide) ?_
        refine lv_iadd hx hb dX12_deal_137 ?_
        refine eqi (x1 := nI (1552 + 4 * jno + 0)) (nI_add (1552 + 4 * jno) 0) ?_
        refine ald hC hK hP 1 rfl (vp_in_nI (by omega) (by omega)) (k := (1552 + 4 * jno + 0)) (nI_clamp (by omega)) (v := fnw (1552 + 4 * jno + 0)) rfl dX12_deal_138 ?_
        refine lv_topi (fun x6334 ex6334 => ?_)
        refine pf_X12_375 hC rfl hK hP hD hS 0 (ws' := [(h0, .inr (12, [.ref nw, .ref nk, .int mhasKept, .ref nt, .int mtaped, .ref nr, .int mrowMany, .int mroundOf, .int mroundFrom, .int mouts, .ref nm, .int mfromHour, .int mtoHour, .ref ns, .int mfrom, .int mto, .int msort, .int misFault, .int mdeep, .int mcoded, .int mlines, .ref nl, .ref nc, .ref nF, .ref np, .ref ntr, .ref nb, .int mbestCost, .ref nso, .ref nsi, .ref nit, .ref nsh, .ref nsf, .ref nss, .ref nrc, .int 0, .int 6, .int (nI jno), .int x6334, .int msize, .int misParted])), (nw, .inl (G.2.1, 1662, .inl fnw)), (nsh, .inl (G.2.1, 4, .inl fnsh)), (nsf, .inl (G.2.1, 4, .inl fnsf)), (nrc, .inl (G.2.1, 30, .inl fnrc))]) rfl (Nat.le_of_ble_eq_true rfl) rfl rfl rfl dX12_deal_139 (fun H locs hP hD hS => ?_)
        refine lv_aload_n hx hb dX12_deal_142 rfl (lv_at hl 3 rfl) ?_
        refine lv_iload hx hb dX12_deal_143 (lv_at hl 1 rfl) ?_
        refine lv_if_eq (tgt := 160) hx hb dX12_deal_145 (by decide) (fun _ => ?_) (fun c9 => absurd (by decide) c9)
        refine lv_iload hx hb dX12_deal_160 (lv_at hl 0 rfl) ?_
        refine lv_if_eq (tgt := 177) hx hb dX12_deal_162 (by decide) (fun _ => ?_) (fun c9 => absurd (by decide) c9)
        refine lv_aload_n hx hb dX12_deal_177 rfl (lv_at hl 3 rfl) ?_
        refine gf_X12_9 hC rfl hK hP 0 rfl rfl dX12_deal_178 ?_
        refine lv_sipush (v := 1552) hx hb dX12_deal_181 (by decide) ?_
        refine lv_iconst (v := 4) hx hb dX12_deal_184 (by decide) ?_
        refine lv_aload_n hx hb dX12_deal_185 rfl (lv_at hl 3 rfl) ?_
        refine gf_X12_378 hC rfl hK hP 0 rfl rfl dX12_deal_186 ?_
        refine lv_imul hx hb dX12_deal_189 ?_
        refine eqi (x1 := nI (4 * jno)) (nI_mul 4 jno) ?_
        refine lv_iadd hx hb dX12_deal_190 ?_
        refine eqi (x1 := nI (1552 + 4 * jno)) (nI_add 1552 (4 * jno)) ?_
        refine lv_iconst (v := 2) hx hb dX12_deal_191 (by decide) ?_
        refine lv_iadd hx hb dX12_deal_192 ?_
        refine eqi (x1 := nI (1552 + 4 * jno + 2)) (nI_add (1552 + 4 * jno) 2) ?_
        refine ald hC hK hP 1 rfl (vp_in_nI (by omega) (by omega)) (k := (1552 + 4 * jno + 2)) (nI_clamp (by omega)) (v := fnw (1552 + 4 * jno + 2)) rfl dX12_deal_193 ?_
        refine lv_topi (fun x6335 ex6335 => ?_)
        refine pf_X12_369 hC rfl hK hP hD hS 0 (ws' := [(h0, .inr (12, [.ref nw, .ref nk, .int mhasKept, .ref nt, .int mtaped, .ref nr, .int mrowMany, .int mroundOf, .int mroundFrom, .int mouts, .ref nm, .int mfromHour, .int mtoHour, .ref ns, .int mfrom, .int mto, .int msort, .int misFault, .int mdeep, .int mcoded, .int mlines, .ref nl, .ref nc, .ref nF, .ref np, .ref ntr, .ref nb, .int mbestCost, .ref nso, .ref nsi, .ref nit, .ref nsh, .ref nsf, .ref nss, .ref nrc, .int 0, .int 6, .int (nI jno), .int x6334, .int x6335, .int misParted])), (nw, .inl (G.2.1, 1662, .inl fnw)), (nsh, .inl (G.2.1, 4, .inl fnsh)), (nsf, .inl (G.2.1, 4, .inl fnsf)), (nrc, .inl (G.2.1, 30, .inl fnrc))]) rfl (Nat.le_of_ble_eq_true rfl) rfl rfl rfl dX12_deal_194 (fun H locs hP hD hS => ?_)
        refine lv_aload_n hx hb dX12_deal_197 rfl (lv_at hl 3 rfl) ?_
        refine lv_iconst (v := 0) hx hb dX12_deal_198 (by decide) ?_
        refine pf_X12_380 hC rfl hK hP hD hS 0 (ws' := [(h0, .inr (12, [.ref nw, .ref nk, .int mhasKept, .ref nt, .int mtaped, .ref nr, .int mrowMany, .int mroundOf, .int mroundFrom, .int mouts, .ref nm, .int mfromHour, .int mtoHour, .ref ns, .int mfrom, .int mto, .int msort, .int misFault, .int mdeep, .int mcoded, .int mlines, .ref nl, .ref nc, .ref nF, .ref np, .ref ntr, .ref nb, .int mbestCost, .ref nso, .ref nsi, .ref nit, .ref nsh, .ref nsf, .ref nss, .ref nrc, .int 0, .int 6, .int (nI jno), .int x6334, .int x6335, .int 0])), (nw, .inl (G.2.1, 1662, .inl fnw)), (nsh, .inl (G.2.1, 4, .inl fnsh)), (nsf, .inl (G.2.1, 4, .inl fnsf)), (nrc, .inl (G.2.1, 30, .inl fnrc))]) rfl (Nat.le_of_ble_eq_true rfl) rfl (by decide +kernel) (by decide +kernel) dX12_deal_199 (fun H locs hP hD hS => ?_)
        obtain ⟨jdl, hjdl, rfl⟩ := Wi_nat (N := 3) (by decide) a6153
        rcases (show jdl = 0 ∨ jdl = 1 ∨ jdl = 2 ∨ jdl = 3 by omega) with rfl | rfl | rfl | rfl
        · refine lv_aload_n hx hb dX12_deal_202 rfl (lv_at hl 3 rfl) ?_
          refine lv_iload_n hx hb dX12_deal_203 rfl (lv_at hl 5 rfl) ?_
          refine lv_iload_n hx hb dX12_deal_204 rfl (lv_at hl 6 rfl) ?_
          refine iV (wr := [(nw, .inl (G.2.1, 1662, .inl fnw)), (nsh, .inl (G.2.1, 4, .inl fnsh)), (nsf, .inl (G.2.1, 4, .inl fnsf))]) hC hK hl hP hD hS hA (m_dealt0 l G h0 x3 nw nk mhasKept nt mtaped nr mrowMany mroundOf mroundFrom mouts nm mfromHour mtoHour ns mfrom mto msort misFault mdeep mcoded mlines nl nc nF np ntr nb mbestCost nso nsi nit nsh nsf nss nrc 0 6 (nI jno) x6334 x6335 0 fnrc (by omega) (by omega)) si_X12_372 [0, 4] [1, 2, 3] rfl rfl (by decide) rfl (by decide) (by decide) rfl rfl rfl rfl rfl (Nat.le_of_ble_eq_true rfl) ⟨Nat.le_of_ble_eq_true rfl, Nat.le_of_ble_eq_true rfl⟩ ⟨Nat.le_of_ble_eq_true rfl, Nat.le_of_ble_eq_true rfl⟩ dX12_deal_205 (fun r6336 u6337 H locs hr6336 hP hD hS => ?_)
          obtain ⟨jr16338, ip16339, gtrc6340⟩ := u6337
          try dsimp only at hr6336
          have hP : va_P G.1 vwCl [(nw, .inl (G.2.1, 1662, .inl fnw)), (nsh, .inl (G.2.1, 4, .inl fnsh)), (nsf, .inl (G.2.1, 4, .inl fnsf)), (h0, .inr (12, [.ref nw, .ref nk, .int mhasKept, .ref nt, .int mtaped, .ref nr, .int mrowMany, .int mroundOf, .int mroundFrom, .int mouts, .ref nm, .int mfromHour, .int mtoHour, .ref ns, .int mfrom, .int mto, .int msort, .int misFault, .int mdeep, .int mcoded, .int mlines, .ref nl, .ref nc, .ref nF, .ref np, .ref ntr, .ref nb, .int mbestCost, .ref nso, .ref nsi, .ref nit, .ref nsh, .ref nsf, .ref nss, .ref nrc, .int (nI jr16338), .int 6, .int (nI jno), .int x6334, .int x6335, .int ip16339])), (nrc, .inl (G.2.1, 30, .inl gtrc6340))] H := hP
          have hD : va_D A [(nw, .inl (G.2.1, 1662, .inl fnw)), (nsh, .inl (G.2.1, 4, .inl fnsh)), (nsf, .inl (G.2.1, 4, .inl fnsf)), (h0, .inr (12, [.ref nw, .ref nk, .int mhasKept, .ref nt, .int mtaped, .ref nr, .int mrowMany, .int mroundOf, .int mroundFrom, .int mouts, .ref nm, .int mfromHour, .int mtoHour, .ref ns, .int mfrom, .int mto, .int msort, .int misFault, .int mdeep, .int mcoded, .int mlines, .ref nl, .ref nc, .ref nF, .ref np, .ref ntr, .ref nb, .int mbestCost, .ref nso, .ref nsi, .ref nit, .ref nsh, .ref nsf, .ref nss, .ref nrc, .int (nI jr16338), .int 6, .int (nI jno), .int x6334, .int x6335, .int ip16339])), (nrc, .inl (G.2.1, 30, .inl gtrc6340))] := hD
          obtain ⟨hr6336, w6341⟩ := hr6336
          refine lv_istore (lv' := [(7, .int r6336), (6, .int 0), (5, .int 0), (4, .int 6), (0, .ref h0), (1, .int (nI jt)), (2, .int 0), (3, .int x3)]) hx hb dX12_deal_208 hl (by decide) rfl (fun ls hl => ?_)
          refine lv_aload_n hx hb dX12_deal_210 rfl (lv_at hl 4 rfl) ?_
          refine gf_X12_380 hC rfl hK hP 3 rfl rfl dX12_deal_211 ?_
          refine lv_if_eq (tgt := 222) hx hb dX12_deal_214 (by decide) (fun c_214_6342 => ?_) (fun c_214_6342 => ?_)
          · refine lv_iload hx hb dX12_deal_222 (lv_at hl 0 rfl) ?_
            exact RI (v := r6336) hC hP hD hS [3, 0, 1, 2, 4] (jr16338, 6, nI jno, x6334, x6335, ip16339, gtrc6340) rfl rfl (by decide) (⟨trivial, by omega⟩) rfl dX12_deal_224
          · refine lv_bipush (v := (-15)) hx hb dX12_deal_217 (by decide) ?_
            refine lv_goto (tgt := 224) hx hb dX12_deal_219 (by decide) ?_
            exact RI (v := (-15)) hC hP hD hS [3, 0, 1, 2, 4] (jr16338, 6, nI jno, x6334, x6335, ip16339, gtrc6340) rfl rfl (by decide) (⟨trivial, by omega⟩) rfl dX12_deal_224
        · refine lv_aload_n hx hb dX12_deal_202 rfl (lv_at hl 3 rfl) ?_
          refine lv_iload_n hx hb dX12_deal_203 rfl (lv_at hl 5 rfl) ?_
          refine lv_iload_n hx hb dX12_deal_204 rfl (lv_at hl 6 rfl) ?_
          refine iV (wr := [(nw, .inl (G.2.1, 1662, .inl fnw)), (nsh, .inl (G.2.1, 4, .inl fnsh)), (nsf, .inl (G.2.1, 4, .inl fnsf))]) hC hK hl hP hD hS hA (m_dealt1 l G h0 x3 nw nk mhasKept nt mtaped nr mrowMany mroundOf mroundFrom mouts nm mfromHour mtoHour ns mfrom mto msort misFault mdeep mcoded mlines nl nc nF np ntr nb mbestCost nso nsi nit nsh nsf nss nrc 0 6 (nI jno) x6334 x6335 0 fnrc (by omega) (by omega)) si_X12_372 [0, 4] [1, 2, 3] rfl rfl (by decide) rfl (by decide) (by decide) rfl rfl rfl rfl rfl (Nat.le_of_ble_eq_true rfl) ⟨Nat.le_of_ble_eq_true rfl, Nat.le_of_ble_eq_true rfl⟩ ⟨Nat.le_of_ble_eq_true rfl, Nat.le_of_ble_eq_true rfl⟩ dX12_deal_205 (fun r6343 u6344 H locs hr6343 hP hD hS => ?_)
          obtain ⟨jr16345, ip16346, gtrc6347⟩ := u6344
          try dsimp only at hr6343
          have hP : va_P G.1 vwCl [(nw, .inl (G.2.1, 1662, .inl fnw)), (nsh, .inl (G.2.1, 4, .inl fnsh)), (nsf, .inl (G.2.1, 4, .inl fnsf)), (h0, .inr (12, [.ref nw, .ref nk, .int mhasKept, .ref nt, .int mtaped, .ref nr, .int mrowMany, .int mroundOf, .int mroundFrom, .int mouts, .ref nm, .int mfromHour, .int mtoHour, .ref ns, .int mfrom, .int mto, .int msort, .int misFault, .int mdeep, .int mcoded, .int mlines, .ref nl, .ref nc, .ref nF, .ref np, .ref ntr, .ref nb, .int mbestCost, .ref nso, .ref nsi, .ref nit, .ref nsh, .ref nsf, .ref nss, .ref nrc, .int (nI jr16345), .int 6, .int (nI jno), .int x6334, .int x6335, .int ip16346])), (nrc, .inl (G.2.1, 30, .inl gtrc6347))] H := hP
          have hD : va_D A [(nw, .inl (G.2.1, 1662, .inl fnw)), (nsh, .inl (G.2.1, 4, .inl fnsh)), (nsf, .inl (G.2.1, 4, .inl fnsf)), (h0, .inr (12, [.ref nw, .ref nk, .int mhasKept, .ref nt, .int mtaped, .ref nr, .int mrowMany, .int mroundOf, .int mroundFrom, .int mouts, .ref nm, .int mfromHour, .int mtoHour, .ref ns, .int mfrom, .int mto, .int msort, .int misFault, .int mdeep, .int mcoded, .int mlines, .ref nl, .ref nc, .ref nF, .ref np, .ref ntr, .ref nb, .int mbestCost, .ref nso, .ref nsi, .ref nit, .ref nsh, .ref nsf, .ref nss, .ref nrc, .int (nI jr16345), .int 6, .int (nI jno), .int x6334, .int x6335, .int ip16346])), (nrc, .inl (G.2.1, 30, .inl gtrc6347))] := hD
          obtain ⟨hr6343, w6348⟩ := hr6343
          refine lv_istore (lv' := [(7, .int r6343), (6, .int 0), (5, .int 0), (4, .int 6), (0, .ref h0), (1, .int (nI jt)), (2, .int 1), (3, .int x3)]) hx hb dX12_deal_208 hl (by decide) rfl (fun ls hl => ?_)
          refine lv_aload_n hx hb dX12_deal_210 rfl (lv_at hl 4 rfl) ?_
          refine gf_X12_380 hC rfl hK hP 3 rfl rfl dX12_deal_211 ?_
          refine lv_if_eq (tgt := 222) hx hb dX12_deal_214 (by decide) (fun c_214_6349 => ?_) (fun c_214_6349 => ?_)
          · refine lv_iload hx hb dX12_deal_222 (lv_at hl 0 rfl) ?_
            exact RI (v := r6343) hC hP hD hS [3, 0, 1, 2, 4] (jr16345, 6, nI jno, x6334, x6335, ip16346, gtrc6347) rfl rfl (by decide) (⟨trivial, by omega⟩) rfl dX12_deal_224
          · refine lv_bipush (v := (-15)) hx hb dX12_deal_217 (by decide) ?_
            refine lv_goto (tgt := 224) hx hb dX12_deal_219 (by decide) ?_
            exact RI (v := (-15)) hC hP hD hS [3, 0, 1, 2, 4] (jr16345, 6, nI jno, x6334, x6335, ip16346, gtrc6347) rfl rfl (by decide) (⟨trivial, by omega⟩) rfl dX12_deal_224
        · refine lv_aload_n hx hb dX12_deal_202 rfl (lv_at hl 3 rfl) ?_
          refine lv_iload_n hx hb dX12_deal_203 rfl (lv_at hl 5 rfl) ?_
          refine lv_iload_n hx hb dX12_deal_204 rfl (lv_at hl 6 rfl) ?_
          refine iV (wr := [(nw, .inl (G.2.1, 1662, .inl fnw)), (nsh, .inl (G.2.1, 4, .inl fnsh)), (nsf, .inl (G.2.1, 4, .inl fnsf))]) hC hK hl hP hD hS hA (m_dealt2 l G h0 x3 nw nk mhasKept nt mtaped nr mrowMany mroundOf mroundFrom mouts nm mfromHour mtoHour ns mfrom mto msort misFault mdeep mcoded mlines nl nc nF np ntr nb mbestCost nso nsi nit nsh nsf nss nrc 0 6 (nI jno) x6334 x6335 0 fnrc (by omega) (by omega)) si_X12_372 [0, 4] [1, 2, 3] rfl rfl (by decide) rfl (by decide) (by decide) rfl rfl rfl rfl rfl (Nat.le_of_ble_eq_true rfl) ⟨Nat.le_of_ble_eq_true rfl, Nat.le_of_ble_eq_true rfl⟩ ⟨Nat.le_of_ble_eq_true rfl, Nat.le_of_ble_eq_true rfl⟩ dX12_deal_205 (fun r6350 u6351 H locs hr6350 hP hD hS => ?_)
          obtain ⟨jr16352, ip16353, gtrc6354⟩ := u6351
          try dsimp only at hr6350
          have hP : va_P G.1 vwCl [(nw, .inl (G.2.1, 1662, .inl fnw)), (nsh, .inl (G.2.1, 4, .inl fnsh)), (nsf, .inl (G.2.1, 4, .inl fnsf)), (h0, .inr (12, [.ref nw, .ref nk, .int mhasKept, .ref nt, .int mtaped, .ref nr, .int mrowMany, .int mroundOf, .int mroundFrom, .int mouts, .ref nm, .int mfromHour, .int mtoHour, .ref ns, .int mfrom, .int mto, .int msort, .int misFault, .int mdeep, .int mcoded, .int mlines, .ref nl, .ref nc, .ref nF, .ref np, .ref ntr, .ref nb, .int mbestCost, .ref nso, .ref nsi, .ref nit, .ref nsh, .ref nsf, .ref nss, .ref nrc, .int (nI jr16352), .int 6, .int (nI jno), .int x6334, .int x6335, .int ip16353])), (nrc, .inl (G.2.1, 30, .inl gtrc6354))] H := hP
          have hD : va_D A [(nw, .inl (G.2.1, 1662, .inl fnw)), (nsh, .inl (G.2.1, 4, .inl fnsh)), (nsf, .inl (G.2.1, 4, .inl fnsf)), (h0, .inr (12, [.ref nw, .ref nk, .int mhasKept, .ref nt, .int mtaped, .ref nr, .int mrowMany, .int mroundOf, .int mroundFrom, .int mouts, .ref nm, .int mfromHour, .int mtoHour, .ref ns, .int mfrom, .int mto, .int msort, .int misFault, .int mdeep, .int mcoded, .int mlines, .ref nl, .ref nc, .ref nF, .ref np, .ref ntr, .ref nb, .int mbestCost, .ref nso, .ref nsi, .ref nit, .ref nsh, .ref nsf, .ref nss, .ref nrc, .int (nI jr16352), .int 6, .int (nI jno), .int x6334, .int x6335, .int ip16353])), (nrc, .inl (G.2.1, 30, .inl gtrc6354))] := hD
          obtain ⟨hr6350, w6355⟩ := hr6350
          refine lv_istore (lv' := [(7, .int r6350), (6, .int 0), (5, .int 0), (4, .int 6), (0, .ref h0), (1, .int (nI jt)), (2, .int 2), (3, .int x3)]) hx hb dX12_deal_208 hl (by decide) rfl (fun ls hl => ?_)
          refine lv_aload_n hx hb dX12_deal_210 rfl (lv_at hl 4 rfl) ?_
          refine gf_X12_380 hC rfl hK hP 3 rfl rfl dX12_deal_211 ?_
          refine lv_if_eq (tgt := 222) hx hb dX12_deal_214 (by decide) (fun c_214_6356 => ?_) (fun c_214_6356 => ?_)
          · refine lv_iload hx hb dX12_deal_222 (lv_at hl 0 rfl) ?_
            exact RI (v := r6350) hC hP hD hS [3, 0, 1, 2, 4] (jr16352, 6, nI jno, x6334, x6335, ip16353, gtrc6354) rfl rfl (by decide) (⟨trivial, by omega⟩) rfl dX12_deal_224
          · refine lv_bipush (v := (-15)) hx hb dX12_deal_217 (by decide) ?_
            refine lv_goto (tgt := 224) hx hb dX12_deal_219 (by decide) ?_
            exact RI (v := (-15)) hC hP hD hS [3, 0, 1, 2, 4] (jr16352, 6, nI jno, x6334, x6335, ip16353, gtrc6354) rfl rfl (by decide) (⟨trivial, by omega⟩) rfl dX12_deal_224
        · refine lv_aload_n hx hb dX12_deal_202 rfl (lv_at hl 3 rfl) ?_
          refine lv_iload_n hx hb dX12_deal_203 rfl (lv_at hl 5 rfl) ?_
          refine lv_iload_n hx hb dX12_deal_204 rfl (lv_at hl 6 rfl) ?_
          refine iV (wr := [(nw, .inl (G.2.1, 1662, .inl fnw)), (nsh, .inl (G.2.1, 4, .inl fnsh)), (nsf, .inl (G.2.1, 4, .inl fnsf))]) hC hK hl hP hD hS hA (m_dealt3 l G h0 x3 nw nk mhasKept nt mtaped nr mrowMany mroundOf mroundFrom mouts nm mfromHour mtoHour ns mfrom mto msort misFault mdeep mcoded mlines nl nc nF np ntr nb mbestCost nso nsi nit nsh nsf nss nrc 0 6 (nI jno) x6334 x6335 0 fnrc (by omega) (by omega)) si_X12_372 [0, 4] [1, 2, 3] rfl rfl (by decide) rfl (by decide) (by decide) rfl rfl rfl rfl rfl (Nat.le_of_ble_eq_true rfl) ⟨Nat.le_of_ble_eq_true rfl, Nat.le_of_ble_eq_true rfl⟩ ⟨Nat.le_of_ble_eq_true rfl, Nat.le_of_ble_eq_true rfl⟩ dX12_deal_205 (fun r6357 u6358 H locs hr6357 hP hD hS => ?_)
          obtain ⟨jr16359, ip16360, gtrc6361⟩ := u6358
          try dsimp only at hr6357
          have hP : va_P G.1 vwCl [(nw, .inl (G.2.1, 1662, .inl fnw)), (nsh, .inl (G.2.1, 4, .inl fnsh)), (nsf, .inl (G.2.1, 4, .inl fnsf)), (h0, .inr (12, [.ref nw, .ref nk, .int mhasKept, .ref nt, .int mtaped, .ref nr, .int mrowMany, .int mroundOf, .int mroundFrom, .int mouts, .ref nm, .int mfromHour, .int mtoHour, .ref ns, .int mfrom, .int mto, .int msort, .int misFault, .int mdeep, .int mcoded, .int mlines, .ref nl, .ref nc, .ref nF, .ref np, .ref ntr, .ref nb, .int mbestCost, .ref nso, .ref nsi, .ref nit, .ref nsh, .ref nsf, .ref nss, .ref nrc, .int (nI jr16359), .int 6, .int (nI jno), .int x6334, .int x6335, .int ip16360])), (nrc, .inl (G.2.1, 30, .inl gtrc6361))] H := hP
          have hD : va_D A [(nw, .inl (G.2.1, 1662, .inl fnw)), (nsh, .inl (G.2.1, 4, .inl fnsh)), (nsf, .inl (G.2.1, 4, .inl fnsf)), (h0, .inr (12, [.ref nw, .ref nk, .int mhasKept, .ref nt, .int mtaped, .ref nr, .int mrowMany, .int mroundOf, .int mroundFrom, .int mouts, .ref nm, .int mfromHour, .int mtoHour, .ref ns, .int mfrom, .int mto, .int msort, .int misFault, .int mdeep, .int mcoded, .int mlines, .ref nl, .ref nc, .ref nF, .ref np, .ref ntr, .ref nb, .int mbestCost, .ref nso, .ref nsi, .ref nit, .ref nsh, .ref nsf, .ref nss, .ref nrc, .int (nI jr16359), .int 6, .int (nI jno), .int x6334, .int x6335, .int ip16360])), (nrc, .inl (G.2.1, 30, .inl gtrc6361))] := hD
          obtain ⟨hr6357, w6362⟩ := hr6357
          refine lv_istore (lv' := [(7, .int r6357), (6, .int 0), (5, .int 0), (4, .int 6), (0, .ref h0), (1, .int (nI jt)), (2, .int 3), (3, .int x3)]) hx hb dX12_deal_208 hl (by decide) rfl (fun ls hl => ?_)
          refine lv_aload_n hx hb dX12_deal_210 rfl (lv_at hl 4 rfl) ?_
          refine gf_X12_380 hC rfl hK hP 3 rfl rfl dX12_deal_211 ?_
          refine lv_if_eq (tgt := 222) hx hb dX12_deal_214 (by decide) (fun c_214_6363 => ?_) (fun c_214_6363 => ?_)
          · refine lv_iload hx hb dX12_deal_222 (lv_at hl 0 rfl) ?_
            exact RI (v := r6357) hC hP hD hS [3, 0, 1, 2, 4] (jr16359, 6, nI jno, x6334, x6335, ip16360, gtrc6361) rfl rfl (by decide) (⟨trivial, by omega⟩) rfl dX12_deal_224
          · refine lv_bipush (v := (-15)) hx hb dX12_deal_217 (by decide) ?_
            refine lv_goto (tgt := 224) hx hb dX12_deal_219 (by decide) ?_
            exact RI (v := (-15)) hC hP hD hS [3, 0, 1, 2, 4] (jr16359, 6, nI jno, x6334, x6335, ip16360, gtrc6361) rfl rfl (by decide) (⟨trivial, by omega⟩) rfl dX12_deal_224
    · refine lv_if_ne (tgt := 23) hx hb dX12_deal_16 (by decide) (fun c9 => absurd (by decide) c9) (fun _ => ?_)
      refine lv_iconst (v := (-1)) hx hb dX12_deal_19 (by decide) ?_
      refine lv_goto (tgt := 28) hx hb dX12_deal_20 (by decide) ?_
      refine lv_istore (lv' := [(4, .int (-1)), (0, .ref h0), (1, .int x1), (2, .int x2), (3, .int x3)]) hx hb dX12_deal_28 hl (by decide) rfl (fun ls hl => ?_)
      refine lv_iload hx hb dX12_deal_30 (lv_at hl 0 rfl) ?_
      refine lv_if_ge (tgt := 37) hx hb dX12_deal_32 (by decide) (fun c9 => absurd c9 (by decide)) (fun _ => ?_)
      refine lv_iconst (v := 0) hx hb dX12_deal_35 (by decide) ?_
      exact RI (v := 0) hC hP hD hS [0, 1, 2, 3, 4] (0, mdealer, mnumber, mwhose, msize, misParted, fnrc) rfl rfl (by decide) (⟨trivial, by omega⟩) rfl dX12_deal_36
  · refine lv_if_eq (tgt := 19) hx hb dX12_deal_9 (by decide) (fun _ => ?_) (fun c9 => absurd (by decide) c9)
    refine lv_iconst (v := (-1)) hx hb dX12_deal_19 (by decide) ?_
    refine lv_goto (tgt := 28) hx hb dX12_deal_20 (by decide) ?_
    refine lv_istore (lv' := [(4, .int (-1)), (0, .ref h0), (1, .int x1), (2, .int x2), (3, .int x3)]) hx hb dX12_deal_28 hl (by decide) rfl (fun ls hl => ?_)
    refine lv_iload hx hb dX12_deal_30 (lv_at hl 0 rfl) ?_
    refine lv_if_ge (tgt := 37) hx hb dX12_deal_32 (by decide) (fun c9 => absurd c9 (by decide)) (fun _ => ?_)
    refine lv_iconst (v := 0) hx hb dX12_deal_35 (by decide) ?_
    exact RI (v := 0) hC hP hD hS [0, 1, 2, 3, 4] (0, mdealer, mnumber, mwhose, msize, misParted, fnrc) rfl rfl (by decide) (⟨trivial, by omega⟩) rfl dX12_deal_36
set_option maxHeartbeats 4000000 in
set_option maxRecDepth 100000 in
theorem r_trace (l : Launch) (G : GG) (h0 : Nat) (x1 : Int32) (nw : Nat) (nk : Nat) (mhasKept : Int32) (nt : Nat) (mtaped : Int32) (nr : Nat) (mrowMany : Int32) (mroundOf : Int32) (mroundFrom : Int32) (mouts : Int32) (nm : Nat) (mfromHour : Int32) (mtoHour : Int32) (ns : Nat) (mfrom : Int32) (mto : Int32) (msort : Int32) (misFault : Int32) (mdeep : Int32) (mcoded : Int32) (mlines : Int32) (nl : Nat) (nc : Nat) (nF : Nat) (np : Nat) (ntr : Nat) (nb : Nat) (mbestCost : Int32) (nso : Nat) (nsi : Nat) (nit : Nat) (nsh : Nat) (nsf : Nat) (nss : Nat) (nrc : Nat) (jr : Nat) (mdealer : Int32) (mnumber : Int32) (mwhose : Int32) (msize : Int32) (misParted : Int32) (fnrc : Nat → Int32) (hjr : jr ≤ 30) : MP l G yX12_trace cX12_trace 2 (some .int) 2 [.ref h0, .int x1] [(h0, .inr (12, [.ref nw, .ref nk, .int mhasKept, .ref nt, .int mtaped, .ref nr, .int mrowMany, .int mroundOf, .int mroundFrom, .int mouts, .ref nm, .int mfromHour, .int mtoHour, .ref ns, .int mfrom, .int mto, .int msort, .int misFault, .int mdeep, .int mcoded, .int mlines, .ref nl, .ref nc, .ref nF, .ref np, .ref ntr, .ref nb, .int mbestCost, .ref nso, .ref nsi, .ref nit, .ref nsh, .ref nsf, .ref nss, .ref nrc, .int (nI jr), .int mdealer, .int mnumber, .int mwhose, .int msize, .int misParted])), (nrc, .inl (G.2.1, 30, .inl fnrc))] (fun r : Int32 => True) := by
  refine MP.start (by decide +kernel) (Nat.le_of_ble_eq_true rfl) ?_
  intro p e s m below meth c ls hC hK hP hD hl
  have hl : lv_has ls 2 [(0, .ref h0), (1, .int x1)] := hl
  obtain ⟨hx, hb, hr, hml, hB, hown, hlocks, hnm⟩ := id hC
  refine lv_iload_n hx hb dX12_trace_0 rfl (lv_at hl 1 rfl) ?_
  refine lv_iconst (v := 0) hx hb dX12_trace_1 (by decide) ?_
  refine lv_aload_n hx hb dX12_trace_2 rfl (lv_at hl 0 rfl) ?_
  refine gf_X12_351 hC rfl hK hP 0 rfl rfl dX12_trace_3 ?_
  refine lv_iconst (v := 1) hx hb dX12_trace_6 (by decide) ?_
  refine lv_isub hx hb dX12_trace_7 ?_
  refine eqi (x1 := (nI jr) - 1) (rfl) ?_
  refine pS hC hK hl (m_within l G x1 0 ((nI jr) - 1)) si_X12_84 rfl rfl (Nat.le_of_ble_eq_true rfl) ⟨Nat.le_of_ble_eq_true rfl, Nat.le_of_ble_eq_true rfl⟩ ⟨by first | exact Nat.le_of_ble_eq_true rfl | exact Nat.zero_le _, by first | exact Nat.le_of_ble_eq_true rfl | exact Nat.zero_le _⟩ dX12_trace_8 (fun r6364 hr6364 => ?_)
  rcases hr6364 with ⟨rfl, a6365⟩ | ⟨rfl, a6365⟩
  · refine lv_if_eq (tgt := 23) hx hb dX12_trace_11 (by decide) (fun c9 => absurd c9 (by decide)) (fun _ => ?_)
    obtain ⟨ji, hji, rfl⟩ := Hs_nat (by omega) ((WiHs (by omega)).mp a6365)
    refine lv_aload_n hx hb dX12_trace_14 rfl (lv_at hl 0 rfl) ?_
    refine gf_X12_81 hC rfl hK hP 0 rfl rfl dX12_trace_15 ?_
    refine lv_iload_n hx hb dX12_trace_18 rfl (lv_at hl 1 rfl) ?_
    refine ald hC hK hP 1 rfl (vp_in_nI (by omega) (by omega)) (k := ji) (nI_clamp (by omega)) (v := fnrc ji) rfl dX12_trace_19 ?_
    refine lv_topi (fun x6366 ex6366 => ?_)
    refine lv_goto (tgt := 25) hx hb dX12_trace_20 (by decide) ?_
    exact RP (v := x6366) hC (trivial) rfl dX12_trace_25
  · refine lv_if_eq (tgt := 23) hx hb dX12_trace_11 (by decide) (fun _ => ?_) (fun c9 => absurd (by decide) c9)
    refine lv_bipush (v := (-3)) hx hb dX12_trace_23 (by decide) ?_
    exact RP (v := (-3)) hC (trivial) rfl dX12_trace_25
set_option maxHeartbeats 4000000 in
set_option maxRecDepth 100000 in
theorem r_many (l : Launch) (G : GG) (h0 : Nat) (x1 : Int32) (nw : Nat) (nk : Nat) (mhasKept : Int32) (nt : Nat) (mtaped : Int32) (nr : Nat) (mrowMany : Int32) (mroundOf : Int32) (mroundFrom : Int32) (mouts : Int32) (nm : Nat) (mfromHour : Int32) (mtoHour : Int32) (ns : Nat) (mfrom : Int32) (mto : Int32) (msort : Int32) (misFault : Int32) (mdeep : Int32) (mcoded : Int32) (mlines : Int32) (nl : Nat) (nc : Nat) (nF : Nat) (np : Nat) (ntr : Nat) (nb : Nat) (mbestCost : Int32) (nso : Nat) (nsi : Nat) (nit : Nat) (nsh : Nat) (nsf : Nat) (nss : Nat) (nrc : Nat) (mtraced : Int32) (mdealer : Int32) (mnumber : Int32) (mwhose : Int32) (msize : Int32) (misParted : Int32) (fnw : Nat → Int32) (fnm : Nat → Int32) (fns : Nat → Int32) (fnp : Nat → Int32) (hN : NI fnw) (hV : VI fnw) (hM : MB fnm) : MI l G yX12_many cX12_many 4 (some .int) 10 0 0 [.ref h0, .int x1] [(h0, .inr (12, [.ref nw, .ref nk, .int mhasKept, .ref nt, .int mtaped, .ref nr, .int mrowMany, .int mroundOf, .int mroundFrom, .int mouts, .ref nm, .int mfromHour, .int mtoHour, .ref ns, .int mfrom, .int mto, .int msort, .int misFault, .int mdeep, .int mcoded, .int mlines, .ref nl, .ref nc, .ref nF, .ref np, .ref ntr, .ref nb, .int mbestCost, .ref nso, .ref nsi, .ref nit, .ref nsh, .ref nsf, .ref nss, .ref nrc, .int mtraced, .int mdealer, .int mnumber, .int mwhose, .int msize, .int misParted])), (nw, .inl (G.2.1, 1662, .inl fnw)), (nm, .inl (G.2.1, 36, .inl fnm)), (ns, .inl (G.2.1, 8, .inl fns)), (np, .inl (G.2.1, 100, .inl fnp))] (fun (r : Int32) (u : Int32 × Int32 × (Nat → Int32) × (Nat → Int32) × (Nat → Int32)) => (True) ∧ (MB u.2.2.1)) (fun u : Int32 × Int32 × (Nat → Int32) × (Nat → Int32) × (Nat → Int32) => [(h0, .inr (12, [.ref nw, .ref nk, .int mhasKept, .ref nt, .int mtaped, .ref nr, .int mrowMany, .int mroundOf, .int mroundFrom, .int mouts, .ref nm, .int u.1, .int u.2.1, .ref ns, .int mfrom, .int mto, .int msort, .int misFault, .int mdeep, .int mcoded, .int mlines, .ref nl, .ref nc, .ref nF, .ref np, .ref ntr, .ref nb, .int mbestCost, .ref nso, .ref nsi, .ref nit, .ref nsh, .ref nsf, .ref nss, .ref nrc, .int mtraced, .int mdealer, .int mnumber, .int mwhose, .int msize, .int misParted])), (nw, .inl (G.2.1, 1662, .inl fnw)), (nm, .inl (G.2.1, 36, .inl u.2.2.1)), (ns, .inl (G.2.1, 8, .inl u.2.2.2.1)), (np, .inl (G.2.1, 100, .inl u.2.2.2.2))]) := by
  refine MI.start (by decide +kernel) (Nat.le_of_ble_eq_true rfl) ?_
  intro p e s m below meth c A ls hC hK hP hD hS hA hl
  have hl : lv_has ls 4 [(0, .ref h0), (1, .int x1)] := hl
  obtain ⟨hx, hb, hr, hml, hB, hown, hlocks, hnm⟩ := id hC
  obtain ⟨k9, hk9, ek9⟩ := NI.nat hN (i := 9) (B := 12) (by decide +kernel) (by decide)
  refine lv_iload_n hx hb dX12_many_0 rfl (lv_at hl 1 rfl) ?_
  by_cases c_1_6367 : x1 = 0
  · refine lv_tableIn (tgt := 76) hx hb dX12_many_1 (by rw [c_1_6367]; decide) (by rw [c_1_6367]; decide) (by rw [c_1_6367]; rfl) (by decide) ?_
    refine lv_aload_n hx hb dX12_many_76 rfl (lv_at hl 0 rfl) ?_
    refine gf_X12_9 hC rfl hK hP 0 rfl rfl dX12_many_77 ?_
    refine lv_iconst (v := 0) hx hb dX12_many_80 (by decide) ?_
    refine ald hC hK hP 1 rfl (vin (by decide +kernel)) (k := 0) (by decide +kernel) (v := fnw 0) (rfl) dX12_many_81 ?_
    exact RI (v := fnw 0) hC hP hD hS [0, 1, 2, 3, 4] (mfromHour, mtoHour, fnm, fns, fnp) rfl rfl (by decide) (⟨trivial, by first | assumption | exact hM⟩) rfl dX12_many_82
  by_cases c_1_6368 : x1 = 1
  · refine lv_tableIn (tgt := 83) hx hb dX12_many_1 (by rw [c_1_6368]; decide) (by rw [c_1_6368]; decide) (by rw [c_1_6368]; rfl) (by decide) ?_
    refine lv_aload_n hx hb dX12_many_83 rfl (lv_at hl 0 rfl) ?_
    refine gf_X12_9 hC rfl hK hP 0 rfl rfl dX12_many_84 ?_
    refine lv_iconst (v := 4) hx hb dX12_many_87 (by decide) ?_
    refine ald hC hK hP 1 rfl (vin (by decide +kernel)) (k := 4) (by decide +kernel) (v := fnw 4) (rfl) dX12_many_88 ?_
    exact RI (v := fnw 4) hC hP hD hS [0, 1, 2, 3, 4] (mfromHour, mtoHour, fnm, fns, fnp) rfl rfl (by decide) (⟨trivial, by first | assumption | exact hM⟩) rfl dX12_many_89
  by_cases c_1_6369 : x1 = 2
  · refine lv_tableIn (tgt := 90) hx hb dX12_many_1 (by rw [c_1_6369]; decide) (by rw [c_1_6369]; decide) (by rw [c_1_6369]; rfl) (by decide) ?_
    refine lv_aload_n hx hb dX12_many_90 rfl (lv_at hl 0 rfl) ?_
    refine gf_X12_9 hC rfl hK hP 0 rfl rfl dX12_many_91 ?_
    refine lv_iconst (v := 5) hx hb dX12_many_94 (by decide) ?_
    refine ald hC hK hP 1 rfl (vin (by decide +kernel)) (k := 5) (by decide +kernel) (v := fnw 5) (rfl) dX12_many_95 ?_
    exact RI (v := fnw 5) hC hP hD hS [0, 1, 2, 3, 4] (mfromHour, mtoHour, fnm, fns, fnp) rfl rfl (by decide) (⟨trivial, by first | assumption | exact hM⟩) rfl dX12_many_96
  by_cases c_1_6370 : x1 = 3
  · refine lv_tableIn (tgt := 97) hx hb dX12_many_1 (by rw [c_1_6370]; decide) (by rw [c_1_6370]; decide) (by rw [c_1_6370]; rfl) (by decide) ?_
    refine lv_aload_n hx hb dX12_many_97 rfl (lv_at hl 0 rfl) ?_
    refine pV hC hK hl hP hD (m_inView l G h0 nw nk mhasKept nt mtaped nr mrowMany mroundOf mroundFrom mouts nm mfromHour mtoHour ns mfrom mto msort misFault mdeep mcoded mlines nl nc nF np ntr nb mbestCost nso nsi nit nsh nsf nss nrc mtraced mdealer mnumber mwhose msize misParted fnw (hN)) si_X12_107 [0, 1] rfl rfl (by decide) rfl rfl rfl rfl rfl (Nat.le_of_ble_eq_true rfl) ⟨Nat.le_of_ble_eq_true rfl, Nat.le_of_ble_eq_true rfl⟩ ⟨by first | exact Nat.le_of_ble_eq_true rfl | exact Nat.zero_le _, by first | exact Nat.le_of_ble_eq_true rfl | exact Nat.zero_le _⟩ dX12_many_98 (fun r6371 hr6371 => ?_)
    refine pS hC hK hl (m_bits l G r6371) si_X12_110 rfl rfl (Nat.le_of_ble_eq_true rfl) ⟨Nat.le_of_ble_eq_true rfl, Nat.le_of_ble_eq_true rfl⟩ ⟨by first | exact Nat.le_of_ble_eq_true rfl | exact Nat.zero_le _, by first | exact Nat.le_of_ble_eq_true rfl | exact Nat.zero_le _⟩ dX12_many_101 (fun r6372 hr6372 => ?_)
    exact RI (v := r6372) hC hP hD hS [0, 1, 2, 3, 4] (mfromHour, mtoHour, fnm, fns, fnp) rfl rfl (by decide) (⟨trivial, by first | assumption | exact hM⟩) rfl dX12_many_104
  by_cases c_1_6373 : x1 = 4
  · refine lv_tableIn (tgt := 105) hx hb dX12_many_1 (by rw [c_1_6373]; decide) (by rw [c_1_6373]; decide) (by rw [c_1_6373]; rfl) (by decide) ?_
    refine lv_aload_n hx hb dX12_many_105 rfl (lv_at hl 0 rfl) ?_
    refine gf_X12_9 hC rfl hK hP 0 rfl rfl dX12_many_106 ?_
    refine lv_bipush (v := 6) hx hb dX12_many_109 (by decide) ?_
    refine ald hC hK hP 1 rfl (vin (by decide +kernel)) (k := 6) (by decide +kernel) (v := fnw 6) (rfl) dX12_many_111 ?_
    exact RI (v := fnw 6) hC hP hD hS [0, 1, 2, 3, 4] (mfromHour, mtoHour, fnm, fns, fnp) rfl rfl (by decide) (⟨trivial, by first | assumption | exact hM⟩) rfl dX12_many_112
  by_cases c_1_6374 : x1 = 5
  · refine lv_tableIn (tgt := 113) hx hb dX12_many_1 (by rw [c_1_6374]; decide) (by rw [c_1_6374]; decide) (by rw [c_1_6374]; rfl) (by decide) ?_
    refine lv_aload_n hx hb dX12_many_113 rfl (lv_at hl 0 rfl) ?_
    refine gf_X12_9 hC rfl hK hP 0 rfl rfl dX12_many_114 ?_
    refine lv_bipush (v := 7) hx hb dX12_many_117 (by decide) ?_
    refine ald hC hK hP 1 rfl (vin (by decide +kernel)) (k := 7) (by decide +kernel) (v := fnw 7) (rfl) dX12_many_119 ?_
    exact RI (v := fnw 7) hC hP hD hS [0, 1, 2, 3, 4] (mfromHour, mtoHour, fnm, fns, fnp) rfl rfl (by decide) (⟨trivial, by first | assumption | exact hM⟩) rfl dX12_many_120
  by_cases c_1_6375 : x1 = 6
  · refine lv_tableIn (tgt := 121) hx hb dX12_many_1 (by rw [c_1_6375]; decide) (by rw [c_1_6375]; decide) (by rw [c_1_6375]; rfl) (by decide) ?_
    refine lv_aload_n hx hb dX12_many_121 rfl (lv_at hl 0 rfl) ?_
    refine gf_X12_9 hC rfl hK hP 0 rfl rfl dX12_many_122 ?_
    refine lv_bipush (v := 8) hx hb dX12_many_125 (by decide) ?_
    refine ald hC hK hP 1 rfl (vin (by decide +kernel)) (k := 8) (by decide +kernel) (v := fnw 8) (rfl) dX12_many_127 ?_
    exact RI (v := fnw 8) hC hP hD hS [0, 1, 2, 3, 4] (mfromHour, mtoHour, fnm, fns, fnp) rfl rfl (by decide) (⟨trivial, by first | assumption | exact hM⟩) rfl dX12_many_128
  by_cases c_1_6376 : x1 = 7
  · refine lv_tableIn (tgt := 129) hx hb dX12_many_1 (by rw [c_1_6376]; decide) (by rw [c_1_6376]; decide) (by rw [c_1_6376]; rfl) (by decide) ?_
    refine lv_aload_n hx hb dX12_many_129 rfl (lv_at hl 0 rfl) ?_
    refine lv_iconst (v := (-1)) hx hb dX12_many_130 (by decide) ?_
    refine pV hC hK hl hP hD (m_saidBy l G h0 (-1) nw nk mhasKept nt mtaped nr mrowMany mroundOf mroundFrom mouts nm mfromHour mtoHour ns mfrom mto msort misFault mdeep mcoded mlines nl nc nF np ntr nb mbestCost nso nsi nit nsh nsf nss nrc mtraced mdealer mnumber mwhose msize misParted fnw (hN)) si_X12_127 [0, 1] rfl rfl (by decide) rfl rfl rfl rfl rfl (Nat.le_of_ble_eq_true rfl) ⟨Nat.le_of_ble_eq_true rfl, Nat.le_of_ble_eq_true rfl⟩ ⟨by first | exact Nat.le_of_ble_eq_true rfl | exact Nat.zero_le _, by first | exact Nat.le_of_ble_eq_true rfl | exact Nat.zero_le _⟩ dX12_many_131 (fun r6377 hr6377 => ?_)
    exact RI (v := r6377) hC hP hD hS [0, 1, 2, 3, 4] (mfromHour, mtoHour, fnm, fns, fnp) rfl rfl (by decide) (⟨trivial, by first | assumption | exact hM⟩) rfl dX12_many_134
  by_cases c_1_6378 : x1 = 8
  · refine lv_tableIn (tgt := 135) hx hb dX12_many_1 (by rw [c_1_6378]; decide) (by rw [c_1_6378]; decide) (by rw [c_1_6378]; rfl) (by decide) ?_
    refine lv_aload_n hx hb dX12_many_135 rfl (lv_at hl 0 rfl) ?_
    refine gf_X12_9 hC rfl hK hP 0 rfl rfl dX12_many_136 ?_
    refine lv_bipush (v := 9) hx hb dX12_many_139 (by decide) ?_
    refine ald hC hK hP 1 rfl (vin (by decide +kernel)) (k := 9) (by decide +kernel) (v := nI k9) (ek9) dX12_many_141 ?_
    exact RI (v := nI k9) hC hP hD hS [0, 1, 2, 3, 4] (mfromHour, mtoHour, fnm, fns, fnp) rfl rfl (by decide) (⟨trivial, by first | assumption | exact hM⟩) rfl dX12_many_142
  by_cases c_1_6379 : x1 = 9
  · refine lv_tableIn (tgt := 143) hx hb dX12_many_1 (by rw [c_1_6379]; decide) (by rw [c_1_6379]; decide) (by rw [c_1_6379]; rfl) (by decide) ?_
    refine lv_iconst (v := 0) hx hb dX12_many_143 (by decide) ?_
    refine lv_istore_n (lv' := [(2, .int 0), (0, .ref h0), (1, .int x1)]) hx hb dX12_many_144 rfl hl (by decide) rfl (fun ls hl => ?_)
    refine lv_iconst (v := 0) hx hb dX12_many_145 (by decide) ?_
    refine lv_istore_n (lv' := [(3, .int 0), (2, .int 0), (0, .ref h0), (1, .int x1)]) hx hb dX12_many_146 rfl hl (by decide) rfl (fun ls hl => ?_)
    have keyP : ∀ (nP kP : Nat) (nn : Int32) (vfh : Int32) (vth : Int32) (vA : Nat → Int32) (vS : Nat → Int32) (vR : Nat → Int32) (H : Heap) (locs : List Loc) (ls : Array Slot), kP + nP = k9 → (MB vA) → va_P G.1 vwCl [(h0, .inr (12, [.ref nw, .ref nk, .int mhasKept, .ref nt, .int mtaped, .ref nr, .int mrowMany, .int mroundOf, .int mroundFrom, .int mouts, .ref nm, .int vfh, .int vth, .ref ns, .int mfrom, .int mto, .int msort, .int misFault, .int mdeep, .int mcoded, .int mlines, .ref nl, .ref nc, .ref nF, .ref np, .ref ntr, .ref nb, .int mbestCost, .ref nso, .ref nsi, .ref nit, .ref nsh, .ref nsf, .ref nss, .ref nrc, .int mtraced, .int mdealer, .int mnumber, .int mwhose, .int msize, .int misParted])), (nw, .inl (G.2.1, 1662, .inl fnw)), (nm, .inl (G.2.1, 36, .inl vA)), (ns, .inl (G.2.1, 8, .inl vS)), (np, .inl (G.2.1, 100, .inl vR))] H → va_D A [(h0, .inr (12, [.ref nw, .ref nk, .int mhasKept, .ref nt, .int mtaped, .ref nr, .int mrowMany, .int mroundOf, .int mroundFrom, .int mouts, .ref nm, .int vfh, .int vth, .ref ns, .int mfrom, .int mto, .int msort, .int misFault, .int mdeep, .int mcoded, .int mlines, .ref nl, .ref nc, .ref nF, .ref np, .ref ntr, .ref nb, .int mbestCost, .ref nso, .ref nsi, .ref nit, .ref nsh, .ref nsf, .ref nss, .ref nrc, .int mtraced, .int mdealer, .int mnumber, .int mwhose, .int msize, .int misParted])), (nw, .inl (G.2.1, 1662, .inl fnw)), (nm, .inl (G.2.1, 36, .inl vA)), (ns, .inl (G.2.1, 8, .inl vS)), (np, .inl (G.2.1, 100, .inl vR))] → va_S A s.heap H locs → lv_has ls 4 [(3, .int (nI kP)), (2, .int nn), (0, .ref h0), (1, .int x1)] → W p l e (RM 10 0 0) s m ([.ref h0, .int x1] : List Value).toArray below meth c H locs 0 0 (MQ below (QI G (fun (r : Int32) (u : Int32 × Int32 × (Nat → Int32) × (Nat → Int32) × (Nat → Int32)) => (True) ∧ (MB u.2.2.1)) (fun u : Int32 × Int32 × (Nat → Int32) × (Nat → Int32) × (Nat → Int32) => [(h0, .inr (12, [.ref nw, .ref nk, .int mhasKept, .ref nt, .int mtaped, .ref nr, .int mrowMany, .int mroundOf, .int mroundFrom, .int mouts, .ref nm, .int u.1, .int u.2.1, .ref ns, .int mfrom, .int mto, .int msort, .int misFault, .int mdeep, .int mcoded, .int mlines, .ref nl, .ref nc, .ref nF, .ref np, .ref ntr, .ref nb, .int mbestCost, .ref nso, .ref nsi, .ref nit, .ref nsh, .ref nsf, .ref nss, .ref nrc, .int mtraced, .int mdealer, .int mnumber, .int mwhose, .int msize, .int misParted])), (nw, .inl (G.2.1, 1662, .inl fnw)), (nm, .inl (G.2.1, 36, .inl u.2.2.1)), (ns, .inl (G.2.1, 8, .inl u.2.2.2.1)), (np, .inl (G.2.1, 100, .inl u.2.2.2.2))]) A) ([.ref h0, .int x1] : List Value).toArray s 0 0 A) (F0 m 147 ls []) := by
      intro nP
      induction nP with
      | zero =>
        intro kP nn vfh vth vA vS vR H locs ls hkP hvA hP hD hS hl
        obtain rfl : k9 = kP := by omega
        have hl : lv_has ls 4 [(3, .int (nI k9)), (2, .int nn), (0, .ref h0), (1, .int x1)] := hl
        refine lv_iload_n hx hb dX12_many_147 rfl (lv_at hl 0 rfl) ?_
        refine lv_aload_n hx hb dX12_many_148 rfl (lv_at hl 2 rfl) ?_
        refine gf_X12_9 hC rfl hK hP 0 rfl rfl dX12_many_149 ?_
        refine lv_bipush (v := 9) hx hb dX12_many_152 (by decide) ?_
        refine ald hC hK hP 1 rfl (vin (by decide +kernel)) (k := 9) (by decide +kernel) (v := nI k9) (ek9) dX12_many_154 ?_
        refine lv_icmp_ge (tgt := 180) hx hb dX12_many_155 (by decide) (fun _ => ?_) (fun c9 => absurd (Int32.le_refl _) c9)
        refine lv_iload_n hx hb dX12_many_180 rfl (lv_at hl 1 rfl) ?_
        exact RI (v := nn) hC hP hD hS [0, 1, 2, 3, 4] (vfh, vth, vA, vS, vR) rfl rfl (by decide) (⟨trivial, by first | assumption | exact hM⟩) rfl dX12_many_181
      | succ nP ihP =>
        intro kP nn vfh vth vA vS vR H locs ls hkP hvA hP hD hS hl
        refine lv_iload_n hx hb dX12_many_147 rfl (lv_at hl 0 rfl) ?_
        refine lv_aload_n hx hb dX12_many_148 rfl (lv_at hl 2 rfl) ?_
        refine gf_X12_9 hC rfl hK hP 0 rfl rfl dX12_many_149 ?_
        refine lv_bipush (v := 9) hx hb dX12_many_152 (by decide) ?_
        refine ald hC hK hP 1 rfl (vin (by decide +kernel)) (k := 9) (by decide +kernel) (v := nI k9) (ek9) dX12_many_154 ?_
        refine lv_icmp_ge (tgt := 180) hx hb dX12_many_155 (by decide) (fun c9 => absurd c9 (nI_ge (a := kP) (b := k9) (by omega) (by omega))) (fun _ => ?_)
        refine lv_iload_n hx hb dX12_many_158 rfl (lv_at hl 1 rfl) ?_
        refine lv_aload_n hx hb dX12_many_159 rfl (lv_at hl 2 rfl) ?_
        refine lv_iload_n hx hb dX12_many_160 rfl (lv_at hl 0 rfl) ?_
        refine iV (wr := []) hC hK hl hP hD hS hA (m_stands l G h0 kP nw nk mhasKept nt mtaped nr mrowMany mroundOf mroundFrom mouts nm vfh vth ns mfrom mto msort misFault mdeep mcoded mlines nl nc nF np ntr nb mbestCost nso nsi nit nsh nsf nss nrc mtraced mdealer mnumber mwhose msize misParted fnw vA vS vR (by omega) (hN) (hV) (hvA)) si_X12_305 [0, 1, 2, 3, 4] [] rfl rfl (by decide) rfl (by decide) (by decide) rfl rfl rfl rfl rfl (Nat.le_of_ble_eq_true rfl) ⟨Nat.le_of_ble_eq_true rfl, Nat.le_of_ble_eq_true rfl⟩ ⟨Nat.le_of_ble_eq_true rfl, Nat.le_of_ble_eq_true rfl⟩ dX12_many_161 (fun r6380 u6381 H locs hr6380 hP hD hS => ?_)
        obtain ⟨fh16382, th16383, gnm6384, gns6385, gnp6386⟩ := u6381
        try dsimp only at hr6380
        have hP : va_P G.1 vwCl [(h0, .inr (12, [.ref nw, .ref nk, .int mhasKept, .ref nt, .int mtaped, .ref nr, .int mrowMany, .int mroundOf, .int mroundFrom, .int mouts, .ref nm, .int fh16382, .int th16383, .ref ns, .int mfrom, .int mto, .int msort, .int misFault, .int mdeep, .int mcoded, .int mlines, .ref nl, .ref nc, .ref nF, .ref np, .ref ntr, .ref nb, .int mbestCost, .ref nso, .ref nsi, .ref nit, .ref nsh, .ref nsf, .ref nss, .ref nrc, .int mtraced, .int mdealer, .int mnumber, .int mwhose, .int msize, .int misParted])), (nw, .inl (G.2.1, 1662, .inl fnw)), (nm, .inl (G.2.1, 36, .inl gnm6384)), (ns, .inl (G.2.1, 8, .inl gns6385)), (np, .inl (G.2.1, 100, .inl gnp6386))] H := hP
        have hD : va_D A [(h0, .inr (12, [.ref nw, .ref nk, .int mhasKept, .ref nt, .int mtaped, .ref nr, .int mrowMany, .int mroundOf, .int mroundFrom, .int mouts, .ref nm, .int fh16382, .int th16383, .ref ns, .int mfrom, .int mto, .int msort, .int misFault, .int mdeep, .int mcoded, .int mlines, .ref nl, .ref nc, .ref nF, .ref np, .ref ntr, .ref nb, .int mbestCost, .ref nso, .ref nsi, .ref nit, .ref nsh, .ref nsf, .ref nss, .ref nrc, .int mtraced, .int mdealer, .int mnumber, .int mwhose, .int msize, .int misParted])), (nw, .inl (G.2.1, 1662, .inl fnw)), (nm, .inl (G.2.1, 36, .inl gnm6384)), (ns, .inl (G.2.1, 8, .inl gns6385)), (np, .inl (G.2.1, 100, .inl gnp6386))] := hD
        obtain ⟨hr6380, w6387⟩ := hr6380
        rcases hr6380 with rfl | rfl
        · refine lv_if_eq (tgt := 171) hx hb dX12_many_164 (by decide) (fun c9 => absurd c9 (by decide)) (fun _ => ?_)
          refine lv_iconst (v := 1) hx hb dX12_many_167 (by decide) ?_
          refine lv_goto (tgt := 172) hx hb dX12_many_168 (by decide) ?_
          refine lv_iadd hx hb dX12_many_172 ?_
          refine lv_istore_n (lv' := [(2, .int (nn + 1)), (3, .int (nI kP)), (0, .ref h0), (1, .int x1)]) hx hb dX12_many_173 rfl hl (by decide) rfl (fun ls hl => ?_)
          refine lv_iinc (v := nI (kP + 1)) (lv' := [(3, .int (nI (kP + 1))), (2, .int (nn + 1)), (0, .ref h0), (1, .int x1)]) hx hb dX12_many_174 hl (k := 1) rfl (nI_1 _) (by decide) rfl (fun ls hl => ?_)
          refine lv_goto (tgt := 147) hx hb dX12_many_177 (by decide) ?_
          exact ihP (kP + 1) (nn + 1) fh16382 th16383 gnm6384 gns6385 gnp6386 _ _ _ (by omega) (by first | assumption | exact Or.inl rfl | exact Or.inr rfl) hP hD hS (lv_sub hl [0, 1, 2, 3] rfl)
        · refine lv_if_eq (tgt := 171) hx hb dX12_many_164 (by decide) (fun _ => ?_) (fun c9 => absurd (by decide) c9)
          refine lv_iconst (v := 0) hx hb dX12_many_171 (by decide) ?_
          refine lv_iadd hx hb dX12_many_172 ?_
          refine lv_istore_n (lv' := [(2, .int (nn + 0)), (3, .int (nI kP)), (0, .ref h0), (1, .int x1)]) hx hb dX12_many_173 rfl hl (by decide) rfl (fun ls hl => ?_)
          refine lv_iinc (v := nI (kP + 1)) (lv' := [(3, .int (nI (kP + 1))), (2, .int (nn + 0)), (0, .ref h0), (1, .int x1)]) hx hb dX12_many_174 hl (k := 1) rfl (nI_1 _) (by decide) rfl (fun ls hl => ?_)
          refine lv_goto (tgt := 147) hx hb dX12_many_177 (by decide) ?_
          exact ihP (kP + 1) (nn + 0) fh16382 th16383 gnm6384 gns6385 gnp6386 _ _ _ (by omega) (by first | assumption | exact Or.inl rfl | exact Or.inr rfl) hP hD hS (lv_sub hl [0, 1, 2, 3] rfl)
    exact keyP k9 0 0 mfromHour mtoHour fnm fns fnp _ _ _ (by omega) (by first | assumption | exact Or.inl rfl | exact Or.inr rfl) hP hD hS (lv_sub hl [0, 1, 2, 3] rfl)
  by_cases c_1_6389 : x1 = 10
  · refine lv_tableIn (tgt := 182) hx hb dX12_many_1 (by rw [c_1_6389]; decide) (by rw [c_1_6389]; decide) (by rw [c_1_6389]; rfl) (by decide) ?_
    refine lv_aload_n hx hb dX12_many_182 rfl (lv_at hl 0 rfl) ?_
    refine gf_X12_9 hC rfl hK hP 0 rfl rfl dX12_many_183 ?_
    refine lv_bipush (v := 10) hx hb dX12_many_186 (by decide) ?_
    refine ald hC hK hP 1 rfl (vin (by decide +kernel)) (k := 10) (by decide +kernel) (v := fnw 10) (rfl) dX12_many_188 ?_
    exact RI (v := fnw 10) hC hP hD hS [0, 1, 2, 3, 4] (mfromHour, mtoHour, fnm, fns, fnp) rfl rfl (by decide) (⟨trivial, by first | assumption | exact hM⟩) rfl dX12_many_189
  by_cases c_1_6390 : x1 = 11
  · refine lv_tableIn (tgt := 190) hx hb dX12_many_1 (by rw [c_1_6390]; decide) (by rw [c_1_6390]; decide) (by rw [c_1_6390]; rfl) (by decide) ?_
    refine lv_aload_n hx hb dX12_many_190 rfl (lv_at hl 0 rfl) ?_
    refine gf_X12_9 hC rfl hK hP 0 rfl rfl dX12_many_191 ?_
    refine lv_bipush (v := 11) hx hb dX12_many_194 (by decide) ?_
    refine ald hC hK hP 1 rfl (vin (by decide +kernel)) (k := 11) (by decide +kernel) (v := fnw 11) (rfl) dX12_many_196 ?_
    exact RI (v := fnw 11) hC hP hD hS [0, 1, 2, 3, 4] (mfromHour, mtoHour, fnm, fns, fnp) rfl rfl (by decide) (⟨trivial, by first | assumption | exact hM⟩) rfl dX12_many_197
  by_cases c_1_6391 : x1 = 12
  · refine lv_tableIn (tgt := 198) hx hb dX12_many_1 (by rw [c_1_6391]; decide) (by rw [c_1_6391]; decide) (by rw [c_1_6391]; rfl) (by decide) ?_
    refine lv_aload_n hx hb dX12_many_198 rfl (lv_at hl 0 rfl) ?_
    refine gf_X12_327 hC rfl hK hP 0 rfl rfl dX12_many_199 ?_
    exact RI (v := mrowMany) hC hP hD hS [0, 1, 2, 3, 4] (mfromHour, mtoHour, fnm, fns, fnp) rfl rfl (by decide) (⟨trivial, by first | assumption | exact hM⟩) rfl dX12_many_202
  by_cases c_1_6392 : x1 = 13
  · refine lv_tableIn (tgt := 203) hx hb dX12_many_1 (by rw [c_1_6392]; decide) (by rw [c_1_6392]; decide) (by rw [c_1_6392]; rfl) (by decide) ?_
    refine lv_aload_n hx hb dX12_many_203 rfl (lv_at hl 0 rfl) ?_
    refine gf_X12_206 hC rfl hK hP 0 rfl rfl dX12_many_204 ?_
    exact RI (v := mtaped) hC hP hD hS [0, 1, 2, 3, 4] (mfromHour, mtoHour, fnm, fns, fnp) rfl rfl (by decide) (⟨trivial, by first | assumption | exact hM⟩) rfl dX12_many_207
  by_cases c_1_6393 : x1 = 14
  · refine lv_tableIn (tgt := 208) hx hb dX12_many_1 (by rw [c_1_6393]; decide) (by rw [c_1_6393]; decide) (by rw [c_1_6393]; rfl) (by decide) ?_
    refine lv_aload_n hx hb dX12_many_208 rfl (lv_at hl 0 rfl) ?_
    refine gf_X12_351 hC rfl hK hP 0 rfl rfl dX12_many_209 ?_
    exact RI (v := mtraced) hC hP hD hS [0, 1, 2, 3, 4] (mfromHour, mtoHour, fnm, fns, fnp) rfl rfl (by decide) (⟨trivial, by first | assumption | exact hM⟩) rfl dX12_many_212
  refine lv_tableOut (tgt := 213) hx hb dX12_many_1 (by have q9 := sw_0_14 (x := x1); simp only [c_1_6367, c_1_6368, c_1_6369, c_1_6370, c_1_6373, c_1_6374, c_1_6375, c_1_6376, c_1_6378, c_1_6379, c_1_6389, c_1_6390, c_1_6391, c_1_6392, c_1_6393, not_false_eq_true, true_implies] at q9; exact q9) (by decide) ?_
  refine lv_iconst (v := (-1)) hx hb dX12_many_213 (by decide) ?_
  exact RI (v := (-1)) hC hP hD hS [0, 1, 2, 3, 4] (mfromHour, mtoHour, fnm, fns, fnp) rfl rfl (by decide) (⟨trivial, by first | assumption | exact hM⟩) rfl dX12_many_214
set_option maxHeartbeats 4000000 in
set_option maxRecDepth 100000 in
theorem w_keep (l : Launch) (G : GG) (h0 : Nat) (nw : Nat) (nk : Nat) (mhasKept : Int32) (nt : Nat) (mtaped : Int32) (nr : Nat) (mrowMany : Int32) (mroundOf : Int32) (mroundFrom : Int32) (mouts : Int32) (nm : Nat) (mfromHour : Int32) (mtoHour : Int32) (ns : Nat) (mfrom : Int32) (mto : Int32) (msort : Int32) (misFault : Int32) (mdeep : Int32) (mcoded : Int32) (mlines : Int32) (nl : Nat) (nc : Nat) (nF : Nat) (np : Nat) (ntr : Nat) (nb : Nat) (mbestCost : Int32) (nso : Nat) (nsi : Nat) (nit : Nat) (nsh : Nat) (nsf : Nat) (nss : Nat) (nrc : Nat) (mtraced : Int32) (mdealer : Int32) (mnumber : Int32) (mwhose : Int32) (msize : Int32) (misParted : Int32) (fnw : Nat → Int32) (fnk : Nat → Int32) (hN : NI fnw) (hV : VI fnw) : MI l G yX12_keep cX12_keep 2 (some .int) 1 0 0 [.ref h0] [(h0, .inr (12, [.ref nw, .ref nk, .int mhasKept, .ref nt, .int mtaped, .ref nr, .int mrowMany, .int mroundOf, .int mroundFrom, .int mouts, .ref nm, .int mfromHour, .int mtoHour, .ref ns, .int mfrom, .int mto, .int msort, .int misFault, .int mdeep, .int mcoded, .int mlines, .ref nl, .ref nc, .ref nF, .ref np, .ref ntr, .ref nb, .int mbestCost, .ref nso, .ref nsi, .ref nit, .ref nsh, .ref nsf, .ref nss, .ref nrc, .int mtraced, .int mdealer, .int mnumber, .int mwhose, .int msize, .int misParted])), (nw, .inl (G.2.1, 1662, .inl fnw)), (nk, .inl (G.2.1, 1662, .inl fnk))] (fun (r : Int32) (u : (Nat → Int32)) => (r = 1) ∧ (NI u ∧ VI u ∧ SCX u (fnw 0) (fnw 1) (fnw 2) (fnw 3) (fnw 4) (fnw 5) (fnw 8) (fnw 9) (fnw 10) (fnw 11))) (fun u : (Nat → Int32) => [(h0, .inr (12, [.ref nw, .ref nk, .int 1, .ref nt, .int mtaped, .ref nr, .int mrowMany, .int mroundOf, .int mroundFrom, .int mouts, .ref nm, .int mfromHour, .int mtoHour, .ref ns, .int mfrom, .int mto, .int msort, .int misFault, .int mdeep, .int mcoded, .int mlines, .ref nl, .ref nc, .ref nF, .ref np, .ref ntr, .ref nb, .int mbestCost, .ref nso, .ref nsi, .ref nit, .ref nsh, .ref nsf, .ref nss, .ref nrc, .int mtraced, .int mdealer, .int mnumber, .int mwhose, .int msize, .int misParted])), (nw, .inl (G.2.1, 1662, .inl fnw)), (nk, .inl (G.2.1, 1662, .inl u))]) := by
  refine MI.start (by decide +kernel) (Nat.le_of_ble_eq_true rfl) ?_
  intro p e s m below meth c A ls hC hK hP hD hS hA hl
  have hl : lv_has ls 2 [(0, .ref h0)] := hl
  obtain ⟨hx, hb, hr, hml, hB, hown, hlocks, hnm⟩ := id hC
  refine lv_iconst (v := 0) hx hb dX12_keep_0 (by decide) ?_
  refine lv_istore_n (lv' := [(1, .int 0), (0, .ref h0)]) hx hb dX12_keep_1 rfl hl (by decide) rfl (fun ls hl => ?_)
  have keyP : ∀ (nP kP : Nat) (vK : Nat → Int32) (H : Heap) (locs : List Loc) (ls : Array Slot), kP + nP = 1662 → (AG kP fnw vK) → va_P G.1 vwCl [(h0, .inr (12, [.ref nw, .ref nk, .int mhasKept, .ref nt, .int mtaped, .ref nr, .int mrowMany, .int mroundOf, .int mroundFrom, .int mouts, .ref nm, .int mfromHour, .int mtoHour, .ref ns, .int mfrom, .int mto, .int msort, .int misFault, .int mdeep, .int mcoded, .int mlines, .ref nl, .ref nc, .ref nF, .ref np, .ref ntr, .ref nb, .int mbestCost, .ref nso, .ref nsi, .ref nit, .ref nsh, .ref nsf, .ref nss, .ref nrc, .int mtraced, .int mdealer, .int mnumber, .int mwhose, .int msize, .int misParted])), (nw, .inl (G.2.1, 1662, .inl fnw)), (nk, .inl (G.2.1, 1662, .inl vK))] H → va_D A [(h0, .inr (12, [.ref nw, .ref nk, .int mhasKept, .ref nt, .int mtaped, .ref nr, .int mrowMany, .int mroundOf, .int mroundFrom, .int mouts, .ref nm, .int mfromHour, .int mtoHour, .ref ns, .int mfrom, .int mto, .int msort, .int misFault, .int mdeep, .int mcoded, .int mlines, .ref nl, .ref nc, .ref nF, .ref np, .ref ntr, .ref nb, .int mbestCost, .ref nso, .ref nsi, .ref nit, .ref nsh, .ref nsf, .ref nss, .ref nrc, .int mtraced, .int mdealer, .int mnumber, .int mwhose, .int msize, .int misParted])), (nw, .inl (G.2.1, 1662, .inl fnw)), (nk, .inl (G.2.1, 1662, .inl vK))] → va_S A s.heap H locs → lv_has ls 2 [(1, .int (nI kP)), (0, .ref h0)] → W p l e (RM 1 0 0) s m ([.ref h0] : List Value).toArray below meth c H locs 0 0 (MQ below (QI G (fun (r : Int32) (u : (Nat → Int32)) => (r = 1) ∧ (NI u ∧ VI u ∧ SCX u (fnw 0) (fnw 1) (fnw 2) (fnw 3) (fnw 4) (fnw 5) (fnw 8) (fnw 9) (fnw 10) (fnw 11))) (fun u : (Nat → Int32) => [(h0, .inr (12, [.ref nw, .ref nk, .int 1, .ref nt, .int mtaped, .ref nr, .int mrowMany, .int mroundOf, .int mroundFrom, .int mouts, .ref nm, .int mfromHour, .int mtoHour, .ref ns, .int mfrom, .int mto, .int msort, .int misFault, .int mdeep, .int mcoded, .int mlines, .ref nl, .ref nc, .ref nF, .ref np, .ref ntr, .ref nb, .int mbestCost, .ref nso, .ref nsi, .ref nit, .ref nsh, .ref nsf, .ref nss, .ref nrc, .int mtraced, .int mdealer, .int mnumber, .int mwhose, .int msize, .int misParted])), (nw, .inl (G.2.1, 1662, .inl fnw)), (nk, .inl (G.2.1, 1662, .inl u))]) A) ([.ref h0] : List Value).toArray s 0 0 A) (F0 m 2 ls []) := by
    intro nP
    induction nP with
    | zero =>
      intro kP vK H locs ls hkP hag hP hD hS hl
      obtain rfl : 1662 = kP := by omega
      have hl : lv_has ls 2 [(1, .int 1662), (0, .ref h0)] := hl
      refine lv_iload_n hx hb dX12_keep_2 rfl (lv_at hl 0 rfl) ?_
      refine lv_sipush (v := 1662) hx hb dX12_keep_3 (by decide) ?_
      refine lv_icmp_ge (tgt := 27) hx hb dX12_keep_6 (by decide) (fun _ => ?_) (fun c9 => absurd (by decide) c9)
      refine lv_aload_n hx hb dX12_keep_27 rfl (lv_at hl 1 rfl) ?_
      refine lv_iconst (v := 1) hx hb dX12_keep_28 (by decide) ?_
      refine pf_X12_383 hC rfl hK hP hD hS 0 (ws' := [(h0, .inr (12, [.ref nw, .ref nk, .int 1, .ref nt, .int mtaped, .ref nr, .int mrowMany, .int mroundOf, .int mroundFrom, .int mouts, .ref nm, .int mfromHour, .int mtoHour, .ref ns, .int mfrom, .int mto, .int msort, .int misFault, .int mdeep, .int mcoded, .int mlines, .ref nl, .ref nc, .ref nF, .ref np, .ref ntr, .ref nb, .int mbestCost, .ref nso, .ref nsi, .ref nit, .ref nsh, .ref nsf, .ref nss, .ref nrc, .int mtraced, .int mdealer, .int mnumber, .int mwhose, .int msize, .int misParted])), (nw, .inl (G.2.1, 1662, .inl fnw)), (nk, .inl (G.2.1, 1662, .inl vK))]) rfl (Nat.le_of_ble_eq_true rfl) rfl (by decide +kernel) (by decide +kernel) dX12_keep_29 (fun H locs hP hD hS => ?_)
      refine lv_iconst (v := 1) hx hb dX12_keep_32 (by decide) ?_
      exact RI (v := 1) hC hP hD hS [0, 1, 2] vK rfl rfl (by decide) (⟨rfl, ⟨AG.NI hag hN, AG.VI hag hV, AG.SC hag⟩⟩) rfl dX12_keep_33
    | succ nP ihP =>
      intro kP vK H locs ls hkP hag hP hD hS hl
      refine lv_iload_n hx hb dX12_keep_2 rfl (lv_at hl 0 rfl) ?_
      refine lv_sipush (v := 1662) hx hb dX12_keep_3 (by decide) ?_
      refine lv_icmp_ge (tgt := 27) hx hb dX12_keep_6 (by decide) (fun c9 => absurd c9 (nI_ge (a := kP) (b := 1662) (by omega) (by omega))) (fun _ => ?_)
      refine lv_aload_n hx hb dX12_keep_9 rfl (lv_at hl 1 rfl) ?_
      refine gf_X12_13 hC rfl hK hP 0 rfl rfl dX12_keep_10 ?_
      refine lv_iload_n hx hb dX12_keep_13 rfl (lv_at hl 0 rfl) ?_
      refine lv_aload_n hx hb dX12_keep_14 rfl (lv_at hl 1 rfl) ?_
      refine gf_X12_9 hC rfl hK hP 0 rfl rfl dX12_keep_15 ?_
      refine lv_iload_n hx hb dX12_keep_18 rfl (lv_at hl 0 rfl) ?_
      refine ald hC hK hP 1 rfl (vp_in_nI (by omega) (by omega)) (k := kP) (nI_clamp (by omega)) (v := fnw kP) rfl dX12_keep_19 ?_
      refine lv_topi (fun x6394 ex6394 => ?_)
      refine ast hC hK hP hD hS 2 (ws' := [(h0, .inr (12, [.ref nw, .ref nk, .int mhasKept, .ref nt, .int mtaped, .ref nr, .int mrowMany, .int mroundOf, .int mroundFrom, .int mouts, .ref nm, .int mfromHour, .int mtoHour, .ref ns, .int mfrom, .int mto, .int msort, .int misFault, .int mdeep, .int mcoded, .int mlines, .ref nl, .ref nc, .ref nF, .ref np, .ref ntr, .ref nb, .int mbestCost, .ref nso, .ref nsi, .ref nit, .ref nsh, .ref nsf, .ref nss, .ref nrc, .int mtraced, .int mdealer, .int mnumber, .int mwhose, .int msize, .int misParted])), (nw, .inl (G.2.1, 1662, .inl fnw)), (nk, .inl (G.2.1, 1662, .inl (upd vK kP x6394)))]) rfl (vp_in_nI (by omega) (by omega)) (k := kP) (nI_clamp (by omega)) (rfl) dX12_keep_20 (fun H locs hP hD hS => ?_)
      refine lv_iinc (v := nI (kP + 1)) (lv' := [(1, .int (nI (kP + 1))), (0, .ref h0)]) hx hb dX12_keep_21 hl (k := 0) rfl (nI_1 _) (by decide) rfl (fun ls hl => ?_)
      refine lv_goto (tgt := 2) hx hb dX12_keep_24 (by decide) ?_
      exact ihP (kP + 1) (upd vK kP x6394) _ _ _ (by omega) (by first | assumption | exact Or.inl rfl | exact Or.inr rfl | exact AG.zero | exact AG.next (by assumption) (by assumption)) hP hD hS (lv_sub hl [0, 1] rfl)
  exact keyP 1662 0 fnk _ _ _ (by omega) (by first | assumption | exact Or.inl rfl | exact Or.inr rfl | exact AG.zero | exact AG.next (by assumption) (by assumption)) hP hD hS (lv_sub hl [0, 1] rfl)
set_option maxHeartbeats 4000000 in
set_option maxRecDepth 100000 in
theorem w_again0 (l : Launch) (G : GG) (h0 : Nat) (nw : Nat) (nk : Nat) (nt : Nat) (mtaped : Int32) (nr : Nat) (mrowMany : Int32) (mroundOf : Int32) (mroundFrom : Int32) (mouts : Int32) (nm : Nat) (mfromHour : Int32) (mtoHour : Int32) (ns : Nat) (mfrom : Int32) (mto : Int32) (msort : Int32) (misFault : Int32) (mdeep : Int32) (mcoded : Int32) (mlines : Int32) (nl : Nat) (nc : Nat) (nF : Nat) (np : Nat) (ntr : Nat) (nb : Nat) (mbestCost : Int32) (nso : Nat) (nsi : Nat) (nit : Nat) (nsh : Nat) (nsf : Nat) (nss : Nat) (nrc : Nat) (mtraced : Int32) (mdealer : Int32) (mnumber : Int32) (mwhose : Int32) (msize : Int32) (misParted : Int32) : MP l G yX12_again cX12_again 2 (some .int) 1 [.ref h0] [(h0, .inr (12, [.ref nw, .ref nk, .int 0, .ref nt, .int mtaped, .ref nr, .int mrowMany, .int mroundOf, .int mroundFrom, .int mouts, .ref nm, .int mfromHour, .int mtoHour, .ref ns, .int mfrom, .int mto, .int msort, .int misFault, .int mdeep, .int mcoded, .int mlines, .ref nl, .ref nc, .ref nF, .ref np, .ref ntr, .ref nb, .int mbestCost, .ref nso, .ref nsi, .ref nit, .ref nsh, .ref nsf, .ref nss, .ref nrc, .int mtraced, .int mdealer, .int mnumber, .int mwhose, .int msize, .int misParted]))] (fun r : Int32 => r = (-3)) := by
  refine MP.start (by decide +kernel) (Nat.le_of_ble_eq_true rfl) ?_
  intro p e s m below meth c ls hC hK hP hD hl
  have hl : lv_has ls 2 [(0, .ref h0)] := hl
  obtain ⟨hx, hb, hr, hml, hB, hown, hlocks, hnm⟩ := id hC
  refine lv_aload_n hx hb dX12_again_0 rfl (lv_at hl 0 rfl) ?_
  refine gf_X12_383 hC rfl hK hP 0 rfl rfl dX12_again_1 ?_
  refine lv_if_ne (tgt := 10) hx hb dX12_again_4 (by decide) (fun c9 => absurd (by decide) c9) (fun _ => ?_)
  refine lv_bipush (v := (-3)) hx hb dX12_again_7 (by decide) ?_
  exact RP (v := (-3)) hC (rfl) rfl dX12_again_9
set_option maxHeartbeats 4000000 in
set_option maxRecDepth 100000 in
theorem w_again1 (l : Launch) (G : GG) (h0 : Nat) (nw : Nat) (nk : Nat) (nt : Nat) (mtaped : Int32) (nr : Nat) (mrowMany : Int32) (mroundOf : Int32) (mroundFrom : Int32) (mouts : Int32) (nm : Nat) (mfromHour : Int32) (mtoHour : Int32) (ns : Nat) (mfrom : Int32) (mto : Int32) (msort : Int32) (misFault : Int32) (mdeep : Int32) (mcoded : Int32) (mlines : Int32) (nl : Nat) (nc : Nat) (nF : Nat) (np : Nat) (ntr : Nat) (nb : Nat) (mbestCost : Int32) (nso : Nat) (nsi : Nat) (nit : Nat) (nsh : Nat) (nsf : Nat) (nss : Nat) (nrc : Nat) (mtraced : Int32) (mdealer : Int32) (mnumber : Int32) (mwhose : Int32) (msize : Int32) (misParted : Int32) (fnw : Nat → Int32) (fnk : Nat → Int32) (hN : NI fnw) (hV : VI fnw) (hNk : NI fnk) (hVk : VI fnk) : MI l G yX12_again cX12_again 2 (some .int) 1 0 0 [.ref h0] [(h0, .inr (12, [.ref nw, .ref nk, .int 1, .ref nt, .int mtaped, .ref nr, .int mrowMany, .int mroundOf, .int mroundFrom, .int mouts, .ref nm, .int mfromHour, .int mtoHour, .ref ns, .int mfrom, .int mto, .int msort, .int misFault, .int mdeep, .int mcoded, .int mlines, .ref nl, .ref nc, .ref nF, .ref np, .ref ntr, .ref nb, .int mbestCost, .ref nso, .ref nsi, .ref nit, .ref nsh, .ref nsf, .ref nss, .ref nrc, .int mtraced, .int mdealer, .int mnumber, .int mwhose, .int msize, .int misParted])), (nw, .inl (G.2.1, 1662, .inl fnw)), (nk, .inl (G.2.1, 1662, .inl fnk))] (fun (r : Int32) (u : (Nat → Int32)) => (r = 1) ∧ (NI u ∧ VI u ∧ SCX u (fnk 0) (fnk 1) (fnk 2) (fnk 3) (fnk 4) (fnk 5) (fnk 8) (fnk 9) (fnk 10) (fnk 11))) (fun u : (Nat → Int32) => [(h0, .inr (12, [.ref nw, .ref nk, .int 1, .ref nt, .int mtaped, .ref nr, .int mrowMany, .int mroundOf, .int mroundFrom, .int mouts, .ref nm, .int mfromHour, .int mtoHour, .ref ns, .int mfrom, .int mto, .int msort, .int misFault, .int mdeep, .int mcoded, .int mlines, .ref nl, .ref nc, .ref nF, .ref np, .ref ntr, .ref nb, .int mbestCost, .ref nso, .ref nsi, .ref nit, .ref nsh, .ref nsf, .ref nss, .ref nrc, .int mtraced, .int mdealer, .int mnumber, .int mwhose, .int msize, .int misParted])), (nw, .inl (G.2.1, 1662, .inl u)), (nk, .inl (G.2.1, 1662, .inl fnk))]) := by
  refine MI.start (by decide +kernel) (Nat.le_of_ble_eq_true rfl) ?_
  intro p e s m below meth c A ls hC hK hP hD hS hA hl
  have hl : lv_has ls 2 [(0, .ref h0)] := hl
  obtain ⟨hx, hb, hr, hml, hB, hown, hlocks, hnm⟩ := id hC
  refine lv_aload_n hx hb dX12_again_0 rfl (lv_at hl 0 rfl) ?_
  refine gf_X12_383 hC rfl hK hP 0 rfl rfl dX12_again_1 ?_
  refine lv_if_ne (tgt := 10) hx hb dX12_again_4 (by decide) (fun _ => ?_) (fun c9 => absurd c9 (by decide))
  refine lv_iconst (v := 0) hx hb dX12_again_10 (by decide) ?_
  refine lv_istore_n (lv' := [(1, .int 0), (0, .ref h0)]) hx hb dX12_again_11 rfl hl (by decide) rfl (fun ls hl => ?_)
  have keyP : ∀ (nP kP : Nat) (vK : Nat → Int32) (H : Heap) (locs : List Loc) (ls : Array Slot), kP + nP = 1662 → (AG kP fnk vK) → va_P G.1 vwCl [(h0, .inr (12, [.ref nw, .ref nk, .int 1, .ref nt, .int mtaped, .ref nr, .int mrowMany, .int mroundOf, .int mroundFrom, .int mouts, .ref nm, .int mfromHour, .int mtoHour, .ref ns, .int mfrom, .int mto, .int msort, .int misFault, .int mdeep, .int mcoded, .int mlines, .ref nl, .ref nc, .ref nF, .ref np, .ref ntr, .ref nb, .int mbestCost, .ref nso, .ref nsi, .ref nit, .ref nsh, .ref nsf, .ref nss, .ref nrc, .int mtraced, .int mdealer, .int mnumber, .int mwhose, .int msize, .int misParted])), (nw, .inl (G.2.1, 1662, .inl vK)), (nk, .inl (G.2.1, 1662, .inl fnk))] H → va_D A [(h0, .inr (12, [.ref nw, .ref nk, .int 1, .ref nt, .int mtaped, .ref nr, .int mrowMany, .int mroundOf, .int mroundFrom, .int mouts, .ref nm, .int mfromHour, .int mtoHour, .ref ns, .int mfrom, .int mto, .int msort, .int misFault, .int mdeep, .int mcoded, .int mlines, .ref nl, .ref nc, .ref nF, .ref np, .ref ntr, .ref nb, .int mbestCost, .ref nso, .ref nsi, .ref nit, .ref nsh, .ref nsf, .ref nss, .ref nrc, .int mtraced, .int mdealer, .int mnumber, .int mwhose, .int msize, .int misParted])), (nw, .inl (G.2.1, 1662, .inl vK)), (nk, .inl (G.2.1, 1662, .inl fnk))] → va_S A s.heap H locs → lv_has ls 2 [(1, .int (nI kP)), (0, .ref h0)] → W p l e (RM 1 0 0) s m ([.ref h0] : List Value).toArray below meth c H locs 0 0 (MQ below (QI G (fun (r : Int32) (u : (Nat → Int32)) => (r = 1) ∧ (NI u ∧ VI u ∧ SCX u (fnk 0) (fnk 1) (fnk 2) (fnk 3) (fnk 4) (fnk 5) (fnk 8) (fnk 9) (fnk 10) (fnk 11))) (fun u : (Nat → Int32) => [(h0, .inr (12, [.ref nw, .ref nk, .int 1, .ref nt, .int mtaped, .ref nr, .int mrowMany, .int mroundOf, .int mroundFrom, .int mouts, .ref nm, .int mfromHour, .int mtoHour, .ref ns, .int mfrom, .int mto, .int msort, .int misFault, .int mdeep, .int mcoded, .int mlines, .ref nl, .ref nc, .ref nF, .ref np, .ref ntr, .ref nb, .int mbestCost, .ref nso, .ref nsi, .ref nit, .ref nsh, .ref nsf, .ref nss, .ref nrc, .int mtraced, .int mdealer, .int mnumber, .int mwhose, .int msize, .int misParted])), (nw, .inl (G.2.1, 1662, .inl u)), (nk, .inl (G.2.1, 1662, .inl fnk))]) A) ([.ref h0] : List Value).toArray s 0 0 A) (F0 m 12 ls []) := by
    intro nP
    induction nP with
    | zero =>
      intro kP vK H locs ls hkP hag hP hD hS hl
      obtain rfl : 1662 = kP := by omega
      have hl : lv_has ls 2 [(1, .int 1662), (0, .ref h0)] := hl
      refine lv_iload_n hx hb dX12_again_12 rfl (lv_at hl 0 rfl) ?_
      refine lv_sipush (v := 1662) hx hb dX12_again_13 (by decide) ?_
      refine lv_icmp_ge (tgt := 37) hx hb dX12_again_16 (by decide) (fun _ => ?_) (fun c9 => absurd (by decide) c9)
      refine lv_iconst (v := 1) hx hb dX12_again_37 (by decide) ?_
      exact RI (v := 1) hC hP hD hS [0, 1, 2] vK rfl rfl (by decide) (⟨rfl, ⟨AG.NI hag hNk, AG.VI hag hVk, AG.SC hag⟩⟩) rfl dX12_again_38
    | succ nP ihP =>
      intro kP vK H locs ls hkP hag hP hD hS hl
      refine lv_iload_n hx hb dX12_again_12 rfl (lv_at hl 0 rfl) ?_
      refine lv_sipush (v := 1662) hx hb dX12_again_13 (by decide) ?_
      refine lv_icmp_ge (tgt := 37) hx hb dX12_again_16 (by decide) (fun c9 => absurd c9 (nI_ge (a := kP) (b := 1662) (by omega) (by omega))) (fun _ => ?_)
      refine lv_aload_n hx hb dX12_again_19 rfl (lv_at hl 1 rfl) ?_
      refine gf_X12_9 hC rfl hK hP 0 rfl rfl dX12_again_20 ?_
      refine lv_iload_n hx hb dX12_again_23 rfl (lv_at hl 0 rfl) ?_
      refine lv_aload_n hx hb dX12_again_24 rfl (lv_at hl 1 rfl) ?_
      refine gf_X12_13 hC rfl hK hP 0 rfl rfl dX12_again_25 ?_
      refine lv_iload_n hx hb dX12_again_28 rfl (lv_at hl 0 rfl) ?_
      refine ald hC hK hP 2 rfl (vp_in_nI (by omega) (by omega)) (k := kP) (nI_clamp (by omega)) (v := fnk kP) rfl dX12_again_29 ?_
      refine lv_topi (fun x6395 ex6395 => ?_)
      refine ast hC hK hP hD hS 1 (ws' := [(h0, .inr (12, [.ref nw, .ref nk, .int 1, .ref nt, .int mtaped, .ref nr, .int mrowMany, .int mroundOf, .int mroundFrom, .int mouts, .ref nm, .int mfromHour, .int mtoHour, .ref ns, .int mfrom, .int mto, .int msort, .int misFault, .int mdeep, .int mcoded, .int mlines, .ref nl, .ref nc, .ref nF, .ref np, .ref ntr, .ref nb, .int mbestCost, .ref nso, .ref nsi, .ref nit, .ref nsh, .ref nsf, .ref nss, .ref nrc, .int mtraced, .int mdealer, .int mnumber, .int mwhose, .int msize, .int misParted])), (nw, .inl (G.2.1, 1662, .inl (upd vK kP x6395))), (nk, .inl (G.2.1, 1662, .inl fnk))]) rfl (vp_in_nI (by omega) (by omega)) (k := kP) (nI_clamp (by omega)) (rfl) dX12_again_30 (fun H locs hP hD hS => ?_)
      refine lv_iinc (v := nI (kP + 1)) (lv' := [(1, .int (nI (kP + 1))), (0, .ref h0)]) hx hb dX12_again_31 hl (k := 0) rfl (nI_1 _) (by decide) rfl (fun ls hl => ?_)
      refine lv_goto (tgt := 12) hx hb dX12_again_34 (by decide) ?_
      exact ihP (kP + 1) (upd vK kP x6395) _ _ _ (by omega) (by first | assumption | exact Or.inl rfl | exact Or.inr rfl | exact AG.zero | exact AG.next (by assumption) (by assumption)) hP hD hS (lv_sub hl [0, 1] rfl)
  exact keyP 1662 0 fnw _ _ _ (by omega) (by first | assumption | exact Or.inl rfl | exact Or.inr rfl | exact AG.zero | exact AG.next (by assumption) (by assumption)) hP hD hS (lv_sub hl [0, 1] rfl)
