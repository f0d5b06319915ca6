section WR
variable {p : Program} {l : Launch} {e : Env} {R : Room} {s : State} {m : MethodId} {args : Array Value} {below : List Frame} {meth : Method} {c : Code} {H : Heap} {locs : List Loc} {cells slots : Nat} {Q : State → Prop}
variable {pc : Nat} {ls : Array Slot} {rest : List Value} {G : GG} {ws : va_W} {A : Nat → Prop} {y0 : MethodName} {b0 : ByteArray} {mL0 : Nat} {rt0 : Option FieldType} {a : Nat} {H0 : Heap}
end WR
/-- what a kind tells of its shelf -/
def KO1 (x : Int32) (y : Int32) (k : Nat) (B : Nat) : Prop := x = nI k ∧ ∃ j, j < B ∧ y = nI j
theorem KO1.mk {x x2 y y2 : Int32} {k B kk : Nat} (hB : kk ≤ B) (hk : kk < 2 ^ 31) (ex : x2 = x) (ey : y2 = y) (c : x2 = nI k) (h : Hs y2 kk) : KO1 x y k B := by
  obtain ⟨j, hj, e⟩ := Hs_nat hk h
  exact ⟨ex.symm.trans c, j, by omega, ey.symm.trans e⟩
/-- the first n alike -/
def AG (n : Nat) (f g : Nat → Int32) : Prop := ∀ i, i < n → g i = f i
theorem AG.zero {f g : Nat → Int32} : AG 0 f g := fun i h => absurd h (Nat.not_lt_zero i)
theorem AG.next {n : Nat} {f g : Nat → Int32} {x : Int32} (h : AG n f g) (hx : x = f n) : AG (n + 1) f (upd g n x) := by
  intro i hi
  unfold upd
  by_cases c : i = n
  · rw [if_pos c, hx, c]
  · rw [if_neg c]; exact h i (by omega)
theorem AG.NI {f g : Nat → Int32} (h : AG 1662 f g) (hN : NI f) : NI g := by
  intro i
  by_cases c : i < 1662
  · rw [h i c]; exact hN i
  · rw [bnd_end (by omega)]
    exact ⟨ti_lo _, ti_hi _⟩
theorem AG.VI {f g : Nat → Int32} (h : AG 1662 f g) (hV : VI f) : VI g := by
  intro v hv
  exact VOK.ext (fun j hj => (h _ (by omega)).symm) (hV v hv)
section WR
variable {p : Program} {l : Launch} {e : Env} {R : Room} {s : State} {m : MethodId} {args : Array Value} {below : List Frame} {meth : Method} {c : Code} {H : Heap} {locs : List Loc} {cells slots : Nat} {Q : State → Prop}
variable {pc : Nat} {ls : Array Slot} {rest : List Value} {G : GG} {ws : va_W} {A : Nat → Prop} {y0 : MethodName} {b0 : ByteArray} {mL0 : Nat} {rt0 : Option FieldType} {a : Nat} {H0 : Heap}
theorem dX12_kindOn_0 : decode cX12_kindOn 0 = .ok (.aload_n 0, 1) := by decide +kernel
theorem dX12_kindOn_1 : decode cX12_kindOn 1 = .ok (.getfield 75, 3) := by decide +kernel
theorem dX12_kindOn_4 : decode cX12_kindOn 4 = .ok (.iload_n 1, 1) := by decide +kernel
theorem dX12_kindOn_5 : decode cX12_kindOn 5 = .ok (.iaload, 1) := by decide +kernel
theorem dX12_kindOn_6 : decode cX12_kindOn 6 = .ok (.istore_n 2, 1) := by decide +kernel
theorem dX12_kindOn_7 : decode cX12_kindOn 7 = .ok (.aload_n 0, 1) := by decide +kernel
theorem dX12_kindOn_8 : decode cX12_kindOn 8 = .ok (.getfield 72, 3) := by decide +kernel
theorem dX12_kindOn_11 : decode cX12_kindOn 11 = .ok (.iload_n 1, 1) := by decide +kernel
theorem dX12_kindOn_12 : decode cX12_kindOn 12 = .ok (.iaload, 1) := by decide +kernel
theorem dX12_kindOn_13 : decode cX12_kindOn 13 = .ok (.tableswitch 145 1 3 #[27, 98, 128], 27) := by decide +kernel
theorem dX12_kindOn_40 : decode cX12_kindOn 40 = .ok (.aload_n 0, 1) := by decide +kernel
theorem dX12_kindOn_41 : decode cX12_kindOn 41 = .ok (.iload_n 2, 1) := by decide +kernel
theorem dX12_kindOn_42 : decode cX12_kindOn 42 = .ok (.iconst 5, 1) := by decide +kernel
theorem dX12_kindOn_43 : decode cX12_kindOn 43 = .ok (.invokevirtual 120, 3) := by decide +kernel
theorem dX12_kindOn_46 : decode cX12_kindOn 46 = .ok (.ifCond .eq 27, 3) := by decide +kernel
theorem dX12_kindOn_49 : decode cX12_kindOn 49 = .ok (.aload_n 0, 1) := by decide +kernel
theorem dX12_kindOn_50 : decode cX12_kindOn 50 = .ok (.iload_n 2, 1) := by decide +kernel
theorem dX12_kindOn_51 : decode cX12_kindOn 51 = .ok (.iconst 1, 1) := by decide +kernel
theorem dX12_kindOn_52 : decode cX12_kindOn 52 = .ok (.invokevirtual 88, 3) := by decide +kernel
theorem dX12_kindOn_55 : decode cX12_kindOn 55 = .ok (.iconst 1, 1) := by decide +kernel
theorem dX12_kindOn_56 : decode cX12_kindOn 56 = .ok (.aload_n 0, 1) := by decide +kernel
theorem dX12_kindOn_57 : decode cX12_kindOn 57 = .ok (.iload_n 2, 1) := by decide +kernel
theorem dX12_kindOn_58 : decode cX12_kindOn 58 = .ok (.iconst 0, 1) := by decide +kernel
theorem dX12_kindOn_59 : decode cX12_kindOn 59 = .ok (.invokevirtual 88, 3) := by decide +kernel
theorem dX12_kindOn_62 : decode cX12_kindOn 62 = .ok (.ishl, 1) := by decide +kernel
theorem dX12_kindOn_63 : decode cX12_kindOn 63 = .ok (.iconst (-1), 1) := by decide +kernel
theorem dX12_kindOn_64 : decode cX12_kindOn 64 = .ok (.ixor, 1) := by decide +kernel
theorem dX12_kindOn_65 : decode cX12_kindOn 65 = .ok (.iand, 1) := by decide +kernel
theorem dX12_kindOn_66 : decode cX12_kindOn 66 = .ok (.ifCond .eq 7, 3) := by decide +kernel
theorem dX12_kindOn_73 : decode cX12_kindOn 73 = .ok (.iconst 0, 1) := by decide +kernel
theorem dX12_kindOn_74 : decode cX12_kindOn 74 = .ok (.istore_n 3, 1) := by decide +kernel
theorem dX12_kindOn_75 : decode cX12_kindOn 75 = .ok (.aload_n 0, 1) := by decide +kernel
theorem dX12_kindOn_76 : decode cX12_kindOn 76 = .ok (.iload_n 2, 1) := by decide +kernel
theorem dX12_kindOn_77 : decode cX12_kindOn 77 = .ok (.iconst 5, 1) := by decide +kernel
theorem dX12_kindOn_78 : decode cX12_kindOn 78 = .ok (.invokevirtual 120, 3) := by decide +kernel
theorem dX12_kindOn_81 : decode cX12_kindOn 81 = .ok (.ifCond .ne 7, 3) := by decide +kernel
theorem dX12_kindOn_88 : decode cX12_kindOn 88 = .ok (.iload_n 3, 1) := by decide +kernel
theorem dX12_kindOn_89 : decode cX12_kindOn 89 = .ok (.ifCond .ne 7, 3) := by decide +kernel
theorem dX12_kindOn_92 : decode cX12_kindOn 92 = .ok (.iconst 2, 1) := by decide +kernel
theorem dX12_kindOn_93 : decode cX12_kindOn 93 = .ok (.goto 17, 3) := by decide +kernel
theorem dX12_kindOn_110 : decode cX12_kindOn 110 = .ok (.ireturn, 1) := by decide +kernel
theorem dX12_kindOn_69 : decode cX12_kindOn 69 = .ok (.iconst 1, 1) := by decide +kernel
theorem dX12_kindOn_70 : decode cX12_kindOn 70 = .ok (.goto 4, 3) := by decide +kernel
theorem dX12_kindOn_96 : decode cX12_kindOn 96 = .ok (.aload_n 0, 1) := by decide +kernel
theorem dX12_kindOn_97 : decode cX12_kindOn 97 = .ok (.iload_n 2, 1) := by decide +kernel
theorem dX12_kindOn_98 : decode cX12_kindOn 98 = .ok (.iconst 3, 1) := by decide +kernel
theorem dX12_kindOn_99 : decode cX12_kindOn 99 = .ok (.invokevirtual 88, 3) := by decide +kernel
theorem dX12_kindOn_102 : decode cX12_kindOn 102 = .ok (.ifCond .le 7, 3) := by decide +kernel
theorem dX12_kindOn_109 : decode cX12_kindOn 109 = .ok (.iconst 1, 1) := by decide +kernel
theorem dX12_kindOn_105 : decode cX12_kindOn 105 = .ok (.iconst 3, 1) := by decide +kernel
theorem dX12_kindOn_106 : decode cX12_kindOn 106 = .ok (.goto 4, 3) := by decide +kernel
theorem dX12_kindOn_84 : decode cX12_kindOn 84 = .ok (.iconst (-1), 1) := by decide +kernel
theorem dX12_kindOn_85 : decode cX12_kindOn 85 = .ok (.goto 25, 3) := by decide +kernel
theorem dX12_kindOn_111 : decode cX12_kindOn 111 = .ok (.aload_n 0, 1) := by decide +kernel
theorem dX12_kindOn_112 : decode cX12_kindOn 112 = .ok (.iload_n 2, 1) := by decide +kernel
theorem dX12_kindOn_113 : decode cX12_kindOn 113 = .ok (.bipush 8, 2) := by decide +kernel
theorem dX12_kindOn_115 : decode cX12_kindOn 115 = .ok (.invokevirtual 120, 3) := by decide +kernel
theorem dX12_kindOn_118 : decode cX12_kindOn 118 = .ok (.ifCond .ne 7, 3) := by decide +kernel
theorem dX12_kindOn_125 : decode cX12_kindOn 125 = .ok (.aload_n 0, 1) := by decide +kernel
theorem dX12_kindOn_126 : decode cX12_kindOn 126 = .ok (.iload_n 2, 1) := by decide +kernel
theorem dX12_kindOn_127 : decode cX12_kindOn 127 = .ok (.bipush 6, 2) := by decide +kernel
theorem dX12_kindOn_129 : decode cX12_kindOn 129 = .ok (.invokevirtual 114, 3) := by decide +kernel
theorem dX12_kindOn_132 : decode cX12_kindOn 132 = .ok (.ifCond .ge 7, 3) := by decide +kernel
theorem dX12_kindOn_139 : decode cX12_kindOn 139 = .ok (.iconst 4, 1) := by decide +kernel
theorem dX12_kindOn_140 : decode cX12_kindOn 140 = .ok (.ireturn, 1) := by decide +kernel
theorem dX12_kindOn_135 : decode cX12_kindOn 135 = .ok (.iconst 5, 1) := by decide +kernel
theorem dX12_kindOn_136 : decode cX12_kindOn 136 = .ok (.goto 4, 3) := by decide +kernel
theorem dX12_kindOn_121 : decode cX12_kindOn 121 = .ok (.iconst (-1), 1) := by decide +kernel
theorem dX12_kindOn_122 : decode cX12_kindOn 122 = .ok (.goto 18, 3) := by decide +kernel
theorem dX12_kindOn_141 : decode cX12_kindOn 141 = .ok (.aload_n 0, 1) := by decide +kernel
theorem dX12_kindOn_142 : decode cX12_kindOn 142 = .ok (.iload_n 2, 1) := by decide +kernel
theorem dX12_kindOn_143 : decode cX12_kindOn 143 = .ok (.bipush 9, 2) := by decide +kernel
theorem dX12_kindOn_145 : decode cX12_kindOn 145 = .ok (.invokevirtual 120, 3) := by decide +kernel
theorem dX12_kindOn_148 : decode cX12_kindOn 148 = .ok (.ifCond .eq 8, 3) := by decide +kernel
theorem dX12_kindOn_151 : decode cX12_kindOn 151 = .ok (.bipush 6, 2) := by decide +kernel
theorem dX12_kindOn_153 : decode cX12_kindOn 153 = .ok (.goto 4, 3) := by decide +kernel
theorem dX12_kindOn_157 : decode cX12_kindOn 157 = .ok (.ireturn, 1) := by decide +kernel
theorem dX12_kindOn_156 : decode cX12_kindOn 156 = .ok (.iconst (-1), 1) := by decide +kernel
theorem sw_1_3 {x : Int32} : ¬ x = 1 → ¬ x = 2 → ¬ x = 3 →  (x.toInt < 1 ∨ 3 < x.toInt) := by
  intros
  simp only [← Int32.toInt_inj] at *
  have hk : ∀ k : Int, x.toInt = k → x.toInt = k := fun _ h => h
  have k1 : (1 : Int32).toInt = 1 := by decide
  have k2 : (2 : Int32).toInt = 2 := by decide
  have k3 : (3 : Int32).toInt = 3 := by decide
  omega
theorem dX12_kindOn_158 : decode cX12_kindOn 158 = .ok (.iconst (-1), 1) := by decide +kernel
theorem dX12_kindOn_159 : decode cX12_kindOn 159 = .ok (.ireturn, 1) := by decide +kernel
theorem dX12_above_0 : decode cX12_above 0 = .ok (.iload_n 0, 1) := by decide +kernel
theorem dX12_above_1 : decode cX12_above 1 = .ok (.iconst 3, 1) := by decide +kernel
theorem dX12_above_2 : decode cX12_above 2 = .ok (.if_icmp .ne 7, 3) := by decide +kernel
theorem dX12_above_9 : decode cX12_above 9 = .ok (.iload_n 0, 1) := by decide +kernel
theorem dX12_above_10 : decode cX12_above 10 = .ok (.iconst 5, 1) := by decide +kernel
theorem dX12_above_11 : decode cX12_above 11 = .ok (.if_icmp .ne 7, 3) := by decide +kernel
theorem dX12_above_18 : decode cX12_above 18 = .ok (.iload_n 0, 1) := by decide +kernel
theorem dX12_above_19 : decode cX12_above 19 = .ok (.ifCond .ne 7, 3) := by decide +kernel
theorem dX12_above_22 : decode cX12_above 22 = .ok (.iconst (-1), 1) := by decide +kernel
theorem dX12_above_23 : decode cX12_above 23 = .ok (.goto 4, 3) := by decide +kernel
theorem dX12_above_27 : decode cX12_above 27 = .ok (.ireturn, 1) := by decide +kernel
theorem dX12_above_26 : decode cX12_above 26 = .ok (.iconst 0, 1) := by decide +kernel
theorem dX12_above_5 : decode cX12_above 5 = .ok (.iconst 1, 1) := by decide +kernel
theorem dX12_above_6 : decode cX12_above 6 = .ok (.goto 21, 3) := by decide +kernel
theorem dX12_above_14 : decode cX12_above 14 = .ok (.iconst 4, 1) := by decide +kernel
theorem dX12_above_15 : decode cX12_above 15 = .ok (.goto 12, 3) := by decide +kernel
theorem dX12_hasOwn_0 : decode cX12_hasOwn 0 = .ok (.iload_n 0, 1) := by decide +kernel
theorem dX12_hasOwn_1 : decode cX12_hasOwn 1 = .ok (.tableswitch 94 0 5 #[39, 41, 52, 63, 79, 79], 39) := by decide +kernel
theorem dX12_hasOwn_40 : decode cX12_hasOwn 40 = .ok (.iconst 1, 1) := by decide +kernel
theorem dX12_hasOwn_41 : decode cX12_hasOwn 41 = .ok (.ireturn, 1) := by decide +kernel
theorem dX12_hasOwn_42 : decode cX12_hasOwn 42 = .ok (.iload_n 1, 1) := by decide +kernel
theorem dX12_hasOwn_43 : decode cX12_hasOwn 43 = .ok (.iconst 1, 1) := by decide +kernel
theorem dX12_hasOwn_44 : decode cX12_hasOwn 44 = .ok (.if_icmp .ne 7, 3) := by decide +kernel
theorem dX12_hasOwn_51 : decode cX12_hasOwn 51 = .ok (.iconst 0, 1) := by decide +kernel
theorem dX12_hasOwn_52 : decode cX12_hasOwn 52 = .ok (.ireturn, 1) := by decide +kernel
theorem dX12_hasOwn_47 : decode cX12_hasOwn 47 = .ok (.iconst 1, 1) := by decide +kernel
theorem dX12_hasOwn_48 : decode cX12_hasOwn 48 = .ok (.goto 4, 3) := by decide +kernel
theorem dX12_hasOwn_53 : decode cX12_hasOwn 53 = .ok (.iload_n 1, 1) := by decide +kernel
theorem dX12_hasOwn_54 : decode cX12_hasOwn 54 = .ok (.iconst 2, 1) := by decide +kernel
theorem dX12_hasOwn_55 : decode cX12_hasOwn 55 = .ok (.if_icmp .ne 7, 3) := by decide +kernel
theorem dX12_hasOwn_62 : decode cX12_hasOwn 62 = .ok (.iconst 0, 1) := by decide +kernel
theorem dX12_hasOwn_63 : decode cX12_hasOwn 63 = .ok (.ireturn, 1) := by decide +kernel
theorem dX12_hasOwn_58 : decode cX12_hasOwn 58 = .ok (.iconst 1, 1) := by decide +kernel
theorem dX12_hasOwn_59 : decode cX12_hasOwn 59 = .ok (.goto 4, 3) := by decide +kernel
theorem dX12_hasOwn_64 : decode cX12_hasOwn 64 = .ok (.iload_n 1, 1) := by decide +kernel
theorem dX12_hasOwn_65 : decode cX12_hasOwn 65 = .ok (.iconst 1, 1) := by decide +kernel
theorem dX12_hasOwn_66 : decode cX12_hasOwn 66 = .ok (.if_icmp .eq 8, 3) := by decide +kernel
theorem dX12_hasOwn_69 : decode cX12_hasOwn 69 = .ok (.iload_n 1, 1) := by decide +kernel
theorem dX12_hasOwn_70 : decode cX12_hasOwn 70 = .ok (.iconst 3, 1) := by decide +kernel
theorem dX12_hasOwn_71 : decode cX12_hasOwn 71 = .ok (.if_icmp .ne 7, 3) := by decide +kernel
theorem dX12_hasOwn_78 : decode cX12_hasOwn 78 = .ok (.iconst 0, 1) := by decide +kernel
theorem dX12_hasOwn_79 : decode cX12_hasOwn 79 = .ok (.ireturn, 1) := by decide +kernel
theorem dX12_hasOwn_74 : decode cX12_hasOwn 74 = .ok (.iconst 1, 1) := by decide +kernel
theorem dX12_hasOwn_75 : decode cX12_hasOwn 75 = .ok (.goto 4, 3) := by decide +kernel
theorem dX12_hasOwn_80 : decode cX12_hasOwn 80 = .ok (.iload_n 1, 1) := by decide +kernel
theorem dX12_hasOwn_81 : decode cX12_hasOwn 81 = .ok (.ifCond .eq 8, 3) := by decide +kernel
theorem dX12_hasOwn_89 : decode cX12_hasOwn 89 = .ok (.iconst 1, 1) := by decide +kernel
theorem dX12_hasOwn_90 : decode cX12_hasOwn 90 = .ok (.goto 4, 3) := by decide +kernel
theorem dX12_hasOwn_94 : decode cX12_hasOwn 94 = .ok (.ireturn, 1) := by decide +kernel
theorem dX12_hasOwn_84 : decode cX12_hasOwn 84 = .ok (.iload_n 1, 1) := by decide +kernel
theorem dX12_hasOwn_85 : decode cX12_hasOwn 85 = .ok (.iconst 2, 1) := by decide +kernel
theorem dX12_hasOwn_86 : decode cX12_hasOwn 86 = .ok (.if_icmp .ne 7, 3) := by decide +kernel
theorem dX12_hasOwn_93 : decode cX12_hasOwn 93 = .ok (.iconst 0, 1) := by decide +kernel
theorem dX12_hasOwn_95 : decode cX12_hasOwn 95 = .ok (.iload_n 1, 1) := by decide +kernel
theorem dX12_hasOwn_96 : decode cX12_hasOwn 96 = .ok (.iconst 3, 1) := by decide +kernel
theorem dX12_hasOwn_97 : decode cX12_hasOwn 97 = .ok (.if_icmp .ne 7, 3) := by decide +kernel
theorem dX12_hasOwn_104 : decode cX12_hasOwn 104 = .ok (.iconst 0, 1) := by decide +kernel
theorem dX12_hasOwn_105 : decode cX12_hasOwn 105 = .ok (.ireturn, 1) := by decide +kernel
theorem dX12_hasOwn_100 : decode cX12_hasOwn 100 = .ok (.iconst 1, 1) := by decide +kernel
theorem dX12_hasOwn_101 : decode cX12_hasOwn 101 = .ok (.goto 4, 3) := by decide +kernel
theorem dX12_taken_0 : decode cX12_taken 0 = .ok (.iload_n 1, 1) := by decide +kernel
theorem dX12_taken_1 : decode cX12_taken 1 = .ok (.invokestatic 336, 3) := by decide +kernel
theorem dX12_taken_4 : decode cX12_taken 4 = .ok (.ifCond .eq 24, 3) := by decide +kernel
theorem dX12_taken_7 : decode cX12_taken 7 = .ok (.iload_n 2, 1) := by decide +kernel
theorem dX12_taken_8 : decode cX12_taken 8 = .ok (.iconst 0, 1) := by decide +kernel
theorem dX12_taken_9 : decode cX12_taken 9 = .ok (.bipush 6, 2) := by decide +kernel
theorem dX12_taken_11 : decode cX12_taken 11 = .ok (.invokestatic 84, 3) := by decide +kernel
theorem dX12_taken_14 : decode cX12_taken 14 = .ok (.ifCond .ne 16, 3) := by decide +kernel
theorem dX12_taken_30 : decode cX12_taken 30 = .ok (.aload_n 0, 1) := by decide +kernel
theorem dX12_taken_31 : decode cX12_taken 31 = .ok (.getfield 72, 3) := by decide +kernel
theorem dX12_taken_34 : decode cX12_taken 34 = .ok (.iload_n 1, 1) := by decide +kernel
theorem dX12_taken_35 : decode cX12_taken 35 = .ok (.iaload, 1) := by decide +kernel
theorem dX12_taken_36 : decode cX12_taken 36 = .ok (.iconst 4, 1) := by decide +kernel
theorem dX12_taken_37 : decode cX12_taken 37 = .ok (.if_icmp .ne 28, 3) := by decide +kernel
theorem dX12_taken_65 : decode cX12_taken 65 = .ok (.aload_n 0, 1) := by decide +kernel
theorem dX12_taken_66 : decode cX12_taken 66 = .ok (.iload_n 1, 1) := by decide +kernel
theorem dX12_taken_67 : decode cX12_taken 67 = .ok (.invokevirtual 345, 3) := by decide +kernel
theorem m_1309 : Cond.code yX12_kindOn cX12_kindOn 4 (some .int) ∈ BW := List.mem_of_getElem? (i := 1309) (by decide +kernel)
theorem m_1306 : Cond.methodLink RX12 345 yX12_kindOn ∈ BW := List.mem_of_getElem? (i := 1306) (by decide +kernel)
theorem m_1307 : Cond.instanceMethod yX12_kindOn ∈ BW := List.mem_of_getElem? (i := 1307) (by decide +kernel)
theorem m_1308 : Cond.selects RX12 yX12_kindOn yX12_kindOn ∈ BW := List.mem_of_getElem? (i := 1308) (by decide +kernel)
theorem si_X12_345 : SV RX12 RX12 345 yX12_kindOn cX12_kindOn 4 (some .int) 1 := ⟨⟨m_1306, m_1307, m_1308, m_5, m_1309⟩, rfl, by decide +kernel, by decide +kernel, by decide +kernel⟩
theorem dX12_taken_70 : decode cX12_taken 70 = .ok (.istore_n 3, 1) := by decide +kernel
theorem dX12_taken_71 : decode cX12_taken 71 = .ok (.iload_n 3, 1) := by decide +kernel
theorem dX12_taken_72 : decode cX12_taken 72 = .ok (.ifCond .ge 6, 3) := by decide +kernel
theorem dX12_taken_75 : decode cX12_taken 75 = .ok (.bipush (-11), 2) := by decide +kernel
theorem dX12_taken_77 : decode cX12_taken 77 = .ok (.ireturn, 1) := by decide +kernel
theorem dX12_taken_78 : decode cX12_taken 78 = .ok (.iload_n 3, 1) := by decide +kernel
theorem dX12_taken_79 : decode cX12_taken 79 = .ok (.ifCond .lt 16, 3) := by decide +kernel
theorem dX12_taken_82 : decode cX12_taken 82 = .ok (.iload_n 3, 1) := by decide +kernel
theorem dX12_taken_83 : decode cX12_taken 83 = .ok (.iload_n 2, 1) := by decide +kernel
theorem dX12_taken_84 : decode cX12_taken 84 = .ok (.if_icmp .eq 11, 3) := by decide +kernel
theorem dX12_taken_95 : decode cX12_taken 95 = .ok (.iload_n 3, 1) := by decide +kernel
theorem dX12_taken_96 : decode cX12_taken 96 = .ok (.iload_n 2, 1) := by decide +kernel
theorem dX12_taken_97 : decode cX12_taken 97 = .ok (.if_icmp .ne 12, 3) := by decide +kernel
theorem dX12_taken_100 : decode cX12_taken 100 = .ok (.aload_n 0, 1) := by decide +kernel
theorem dX12_taken_101 : decode cX12_taken 101 = .ok (.getfield 75, 3) := by decide +kernel
theorem dX12_taken_104 : decode cX12_taken 104 = .ok (.iload_n 1, 1) := by decide +kernel
theorem dX12_taken_105 : decode cX12_taken 105 = .ok (.iaload, 1) := by decide +kernel
theorem dX12_taken_106 : decode cX12_taken 106 = .ok (.goto 5, 3) := by decide +kernel
theorem dX12_taken_111 : decode cX12_taken 111 = .ok (.ireturn, 1) := by decide +kernel
theorem dX12_taken_87 : decode cX12_taken 87 = .ok (.iload_n 3, 1) := by decide +kernel
theorem dX12_taken_88 : decode cX12_taken 88 = .ok (.invokestatic 348, 3) := by decide +kernel
theorem m_1312 : Cond.code yX12_above cX12_above 1 (some .int) ∈ BW := List.mem_of_getElem? (i := 1312) (by decide +kernel)
theorem m_1310 : Cond.methodLink RX12 348 yX12_above ∈ BW := List.mem_of_getElem? (i := 1310) (by decide +kernel)
theorem m_1311 : Cond.static yX12_above ∈ BW := List.mem_of_getElem? (i := 1311) (by decide +kernel)
theorem si_X12_348 : SS RX12 348 yX12_above cX12_above 1 (some .int) 1 := ⟨⟨m_1310, m_1311, m_5, m_1312⟩, ⟨by decide +kernel, by decide +kernel, by decide +kernel⟩⟩
theorem dX12_taken_91 : decode cX12_taken 91 = .ok (.istore_n 3, 1) := by decide +kernel
theorem dX12_taken_92 : decode cX12_taken 92 = .ok (.goto (-14), 3) := by decide +kernel
theorem dX12_taken_109 : decode cX12_taken 109 = .ok (.bipush (-13), 2) := by decide +kernel
theorem dX12_taken_40 : decode cX12_taken 40 = .ok (.iload_n 2, 1) := by decide +kernel
theorem dX12_taken_41 : decode cX12_taken 41 = .ok (.bipush 10, 2) := by decide +kernel
theorem dX12_taken_43 : decode cX12_taken 43 = .ok (.isub, 1) := by decide +kernel
theorem dX12_taken_44 : decode cX12_taken 44 = .ok (.aload_n 0, 1) := by decide +kernel
theorem dX12_taken_45 : decode cX12_taken 45 = .ok (.getfield 75, 3) := by decide +kernel
theorem dX12_taken_48 : decode cX12_taken 48 = .ok (.iload_n 1, 1) := by decide +kernel
theorem dX12_taken_49 : decode cX12_taken 49 = .ok (.iaload, 1) := by decide +kernel
theorem dX12_taken_50 : decode cX12_taken 50 = .ok (.if_icmp .ne 12, 3) := by decide +kernel
theorem dX12_taken_62 : decode cX12_taken 62 = .ok (.bipush (-13), 2) := by decide +kernel
theorem dX12_taken_64 : decode cX12_taken 64 = .ok (.ireturn, 1) := by decide +kernel
theorem dX12_taken_53 : decode cX12_taken 53 = .ok (.aload_n 0, 1) := by decide +kernel
theorem dX12_taken_54 : decode cX12_taken 54 = .ok (.getfield 78, 3) := by decide +kernel
theorem dX12_taken_57 : decode cX12_taken 57 = .ok (.iload_n 1, 1) := by decide +kernel
theorem dX12_taken_58 : decode cX12_taken 58 = .ok (.iaload, 1) := by decide +kernel
theorem dX12_taken_59 : decode cX12_taken 59 = .ok (.goto 5, 3) := by decide +kernel
theorem dX12_taken_17 : decode cX12_taken 17 = .ok (.iload_n 2, 1) := by decide +kernel
theorem dX12_taken_18 : decode cX12_taken 18 = .ok (.bipush 10, 2) := by decide +kernel
theorem dX12_taken_20 : decode cX12_taken 20 = .ok (.bipush 14, 2) := by decide +kernel
theorem dX12_taken_22 : decode cX12_taken 22 = .ok (.invokestatic 84, 3) := by decide +kernel
theorem dX12_taken_25 : decode cX12_taken 25 = .ok (.ifCond .ne 5, 3) := by decide +kernel
theorem dX12_taken_28 : decode cX12_taken 28 = .ok (.iconst (-1), 1) := by decide +kernel
theorem dX12_taken_29 : decode cX12_taken 29 = .ok (.ireturn, 1) := by decide +kernel
theorem dX12_began_0 : decode cX12_began 0 = .ok (.aload_n 0, 1) := by decide +kernel
theorem dX12_began_1 : decode cX12_began 1 = .ok (.getfield 351, 3) := by decide +kernel
theorem m_1346 : Cond.fieldLink RX12 351 "InquiryBenchModel" "traced" "I" ∈ BW := List.mem_of_getElem? (i := 1346) (by decide +kernel)
theorem gf_X12_351 (hC : CX p s m meth c y0 b0 mL0 rt0 args) (hy0 : y0.cls = RX12) (hK : KK G s) (hP : va_P G.1 vwCl ws H) (q0 : Nat) {fs : List Value} {v : Value} (he : ws[q0]? = some (a, .inr (12, fs))) (hv : fs[35]? = some v) (hdg : decode b0 pc = .ok (.getfield 351, 3)) (kk : W p l e R s m args below meth c H locs cells slots Q (F0 m (pc + 3) ls (v :: rest))) : W p l e R s m args below meth c H locs cells slots Q (F0 m pc ls (.ref a :: rest)) := by
  obtain ⟨hx, hb, hr, hml, hB, hown, hlocks, hnm⟩ := hC
  rw [hy0] at hown
  exact va_get (ci := 12) (C := RX12) (T := TX12) (N := 41) hx hb hB in_X12 hown hK.1 hP q0 he rfl 35 (by decide) (hB _ m_1346) (fun _ h => h) hv hdg kk
theorem dX12_began_4 : decode cX12_began 4 = .ok (.bipush 30, 2) := by decide +kernel
theorem dX12_began_6 : decode cX12_began 6 = .ok (.if_icmp .ge 23, 3) := by decide +kernel
theorem dX12_began_29 : decode cX12_began 29 = .ok (.return_, 1) := by decide +kernel
theorem dX12_began_9 : decode cX12_began 9 = .ok (.aload_n 0, 1) := by decide +kernel
theorem dX12_began_10 : decode cX12_began 10 = .ok (.getfield 81, 3) := by decide +kernel
theorem m_207 : Cond.fieldLink RX12 81 "InquiryBenchModel" "trace" "[I" ∈ BW := List.mem_of_getElem? (i := 207) (by decide +kernel)
theorem gf_X12_81 (hC : CX p s m meth c y0 b0 mL0 rt0 args) (hy0 : y0.cls = RX12) (hK : KK G s) (hP : va_P G.1 vwCl ws H) (q0 : Nat) {fs : List Value} {v : Value} (he : ws[q0]? = some (a, .inr (12, fs))) (hv : fs[34]? = some v) (hdg : decode b0 pc = .ok (.getfield 81, 3)) (kk : W p l e R s m args below meth c H locs cells slots Q (F0 m (pc + 3) ls (v :: rest))) : W p l e R s m args below meth c H locs cells slots Q (F0 m pc ls (.ref a :: rest)) := by
  obtain ⟨hx, hb, hr, hml, hB, hown, hlocks, hnm⟩ := hC
  rw [hy0] at hown
  exact va_get (ci := 12) (C := RX12) (T := TX12) (N := 41) hx hb hB in_X12 hown hK.1 hP q0 he rfl 34 (by decide) (hB _ m_207) (fun _ h => h) hv hdg kk
theorem dX12_began_13 : decode cX12_began 13 = .ok (.aload_n 0, 1) := by decide +kernel
theorem dX12_began_14 : decode cX12_began 14 = .ok (.getfield 351, 3) := by decide +kernel
theorem dX12_began_17 : decode cX12_began 17 = .ok (.iload_n 1, 1) := by decide +kernel
theorem dX12_began_18 : decode cX12_began 18 = .ok (.iastore, 1) := by decide +kernel
theorem dX12_began_19 : decode cX12_began 19 = .ok (.aload_n 0, 1) := by decide +kernel
theorem dX12_began_20 : decode cX12_began 20 = .ok (.dup, 1) := by decide +kernel
theorem dX12_began_21 : decode cX12_began 21 = .ok (.getfield 351, 3) := by decide +kernel
theorem dX12_began_24 : decode cX12_began 24 = .ok (.iconst 1, 1) := by decide +kernel
theorem dX12_began_25 : decode cX12_began 25 = .ok (.iadd, 1) := by decide +kernel
theorem dX12_began_26 : decode cX12_began 26 = .ok (.putfield 351, 3) := by decide +kernel
theorem pf_X12_351 (hC : CX p s m meth c y0 b0 mL0 rt0 args) (hy0 : y0.cls = RX12) (hK : KK G s) (hP : va_P G.1 vwCl ws H) (hD : va_D A ws) (hS : va_S A H0 H locs) (q0 : Nat) {fs : List Value} {v : Value} {ws' : va_W} (he : ws[q0]? = some (a, .inr (12, fs))) (hl : 35 < fs.length) (hws : ws.set q0 (a, .inr (12, fs.set 35 v)) = ws') (hn : narrow .int v = v) (hfit : fits .int v = true) (hdg : decode b0 pc = .ok (.putfield 351, 3)) (kk : ∀ (H1 : Heap) (locs1 : List Loc), va_P G.1 vwCl ws' H1 → va_D A ws' → va_S A H0 H1 locs1 → W p l e R s m args below meth c H1 locs1 cells slots Q (F0 m (pc + 3) ls rest)) : W p l e R s m args below meth c H locs cells slots Q (F0 m pc ls (v :: .ref a :: rest)) := by
  obtain ⟨hx, hb, hr, hml, hB, hown, hlocks, hnm⟩ := hC
  rw [hy0] at hown
  subst hws
  exact va_put (ci := 12) (ty := .int) (C := RX12) (T := TX12) (N := 41) hx hb hB in_X12 tyX12 tyX12_ok nmX12 hown hK.1 hP hD hS q0 he rfl 35 (by decide) (hB _ m_1346) (fun _ h => h) rfl (by decide +kernel) hn hfit hl hdg kk
end WR
theorem nz_sub {a b : Int32} (h : ¬ a = b) : ¬ a - b = 0 := by
  intro h9
  apply h
  have e : a - b + b = 0 + b := by rw [h9]
  rw [Int32.sub_add_cancel, Int32.zero_add] at e
  exact e
section WR
variable {p : Program} {l : Launch} {e : Env} {R : Room} {s : State} {m : MethodId} {args : Array Value} {below : List Frame} {meth : Method} {c : Code} {H : Heap} {locs : List Loc} {cells slots : Nat} {Q : State → Prop}
variable {pc : Nat} {ls : Array Slot} {rest : List Value} {G : GG} {ws : va_W} {A : Nat → Prop} {y0 : MethodName} {b0 : ByteArray} {mL0 : Nat} {rt0 : Option FieldType} {a : Nat} {H0 : Heap}
theorem dX12_body_0 : decode cX12_body 0 = .ok (.iconst 4, 1) := by decide +kernel
theorem dX12_body_1 : decode cX12_body 1 = .ok (.iload_n 1, 1) := by decide +kernel
theorem dX12_body_2 : decode cX12_body 2 = .ok (.imul, 1) := by decide +kernel
theorem dX12_body_3 : decode cX12_body 3 = .ok (.iload_n 2, 1) := by decide +kernel
theorem dX12_body_4 : decode cX12_body 4 = .ok (.iadd, 1) := by decide +kernel
theorem dX12_body_5 : decode cX12_body 5 = .ok (.tableswitch 348 0 22 #[107, 120, 135, 153, 348, 202, 348, 348, 348, 348, 221, 348, 348, 237, 348, 253, 269, 348, 288, 348, 329, 348, 313], 107) := by decide +kernel
theorem dX12_body_112 : decode cX12_body 112 = .ok (.aload_n 0, 1) := by decide +kernel
theorem dX12_body_113 : decode cX12_body 113 = .ok (.bipush 10, 2) := by decide +kernel
theorem dX12_body_115 : decode cX12_body 115 = .ok (.invokevirtual 366, 3) := by decide +kernel
theorem m_1363 : Cond.code yX12_began cX12_began 2 none ∈ BW := List.mem_of_getElem? (i := 1363) (by decide +kernel)
theorem m_1360 : Cond.methodLink RX12 366 yX12_began ∈ BW := List.mem_of_getElem? (i := 1360) (by decide +kernel)
theorem m_1361 : Cond.instanceMethod yX12_began ∈ BW := List.mem_of_getElem? (i := 1361) (by decide +kernel)
theorem m_1362 : Cond.selects RX12 yX12_began yX12_began ∈ BW := List.mem_of_getElem? (i := 1362) (by decide +kernel)
theorem si_X12_366 : SV RX12 RX12 366 yX12_began cX12_began 2 none 1 := ⟨⟨m_1360, m_1361, m_1362, m_5, m_1363⟩, rfl, by decide +kernel, by decide +kernel, by decide +kernel⟩
theorem dX12_body_118 : decode cX12_body 118 = .ok (.iload_n 3, 1) := by decide +kernel
theorem dX12_body_119 : decode cX12_body 119 = .ok (.aload_n 0, 1) := by decide +kernel
theorem dX12_body_120 : decode cX12_body 120 = .ok (.getfield 369, 3) := by decide +kernel
theorem m_1350 : Cond.fieldLink RX12 369 "InquiryBenchModel" "size" "I" ∈ BW := List.mem_of_getElem? (i := 1350) (by decide +kernel)
theorem gf_X12_369 (hC : CX p s m meth c y0 b0 mL0 rt0 args) (hy0 : y0.cls = RX12) (hK : KK G s) (hP : va_P G.1 vwCl ws H) (q0 : Nat) {fs : List Value} {v : Value} (he : ws[q0]? = some (a, .inr (12, fs))) (hv : fs[39]? = some v) (hdg : decode b0 pc = .ok (.getfield 369, 3)) (kk : W p l e R s m args below meth c H locs cells slots Q (F0 m (pc + 3) ls (v :: rest))) : W p l e R s m args below meth c H locs cells slots Q (F0 m pc ls (.ref a :: rest)) := by
  obtain ⟨hx, hb, hr, hml, hB, hown, hlocks, hnm⟩ := hC
  rw [hy0] at hown
  exact va_get (ci := 12) (C := RX12) (T := TX12) (N := 41) hx hb hB in_X12 hown hK.1 hP q0 he rfl 39 (by decide) (hB _ m_1350) (fun _ h => h) hv hdg kk
theorem dX12_body_123 : decode cX12_body 123 = .ok (.iadd, 1) := by decide +kernel
theorem dX12_body_124 : decode cX12_body 124 = .ok (.ireturn, 1) := by decide +kernel
theorem dX12_bodyFrom_0 : decode cX12_bodyFrom 0 = .ok (.iload_n 1, 1) := by decide +kernel
theorem dX12_bodyFrom_1 : decode cX12_bodyFrom 1 = .ok (.istore 4, 2) := by decide +kernel
theorem dX12_bodyFrom_3 : decode cX12_bodyFrom 3 = .ok (.iload 4, 2) := by decide +kernel
theorem dX12_bodyFrom_5 : decode cX12_bodyFrom 5 = .ok (.iload_n 2, 1) := by decide +kernel
theorem dX12_bodyFrom_6 : decode cX12_bodyFrom 6 = .ok (.invokestatic 360, 3) := by decide +kernel
theorem m_1367 : Cond.code yX12_hasOwn cX12_hasOwn 2 (some .boolean) ∈ BW := List.mem_of_getElem? (i := 1367) (by decide +kernel)
theorem m_1365 : Cond.methodLink RX12 360 yX12_hasOwn ∈ BW := List.mem_of_getElem? (i := 1365) (by decide +kernel)
theorem m_1366 : Cond.static yX12_hasOwn ∈ BW := List.mem_of_getElem? (i := 1366) (by decide +kernel)
theorem si_X12_360 : SS RX12 360 yX12_hasOwn cX12_hasOwn 2 (some .boolean) 2 := ⟨⟨m_1365, m_1366, m_5, m_1367⟩, ⟨by decide +kernel, by decide +kernel, by decide +kernel⟩⟩
theorem dX12_bodyFrom_9 : decode cX12_bodyFrom 9 = .ok (.ifCond .ne 13, 3) := by decide +kernel
theorem dX12_bodyFrom_22 : decode cX12_bodyFrom 22 = .ok (.aload_n 0, 1) := by decide +kernel
theorem dX12_bodyFrom_23 : decode cX12_bodyFrom 23 = .ok (.iload 4, 2) := by decide +kernel
theorem dX12_bodyFrom_25 : decode cX12_bodyFrom 25 = .ok (.iload_n 2, 1) := by decide +kernel
theorem dX12_bodyFrom_26 : decode cX12_bodyFrom 26 = .ok (.iload_n 3, 1) := by decide +kernel
theorem dX12_bodyFrom_27 : decode cX12_bodyFrom 27 = .ok (.invokevirtual 363, 3) := by decide +kernel
theorem m_1359 : Cond.code yX12_body cX12_body 6 (some .int) ∈ BW := List.mem_of_getElem? (i := 1359) (by decide +kernel)
theorem m_1368 : Cond.methodLink RX12 363 yX12_body ∈ BW := List.mem_of_getElem? (i := 1368) (by decide +kernel)
theorem m_1369 : Cond.instanceMethod yX12_body ∈ BW := List.mem_of_getElem? (i := 1369) (by decide +kernel)
theorem m_1370 : Cond.selects RX12 yX12_body yX12_body ∈ BW := List.mem_of_getElem? (i := 1370) (by decide +kernel)
theorem si_X12_363 : SV RX12 RX12 363 yX12_body cX12_body 6 (some .int) 3 := ⟨⟨m_1368, m_1369, m_1370, m_5, m_1359⟩, rfl, by decide +kernel, by decide +kernel, by decide +kernel⟩
theorem dX12_bodyFrom_30 : decode cX12_bodyFrom 30 = .ok (.ireturn, 1) := by decide +kernel
theorem dX12_body_274 : decode cX12_body 274 = .ok (.aload_n 0, 1) := by decide +kernel
theorem dX12_body_275 : decode cX12_body 275 = .ok (.bipush 50, 2) := by decide +kernel
theorem dX12_body_277 : decode cX12_body 277 = .ok (.invokevirtual 366, 3) := by decide +kernel
theorem dX12_body_280 : decode cX12_body 280 = .ok (.aload_n 0, 1) := by decide +kernel
theorem dX12_body_281 : decode cX12_body 281 = .ok (.iconst 0, 1) := by decide +kernel
theorem dX12_body_282 : decode cX12_body 282 = .ok (.iconst 0, 1) := by decide +kernel
theorem dX12_body_283 : decode cX12_body 283 = .ok (.iload_n 3, 1) := by decide +kernel
theorem dX12_body_284 : decode cX12_body 284 = .ok (.invokevirtual 357, 3) := by decide +kernel
theorem m_1364 : Cond.code yX12_bodyFrom cX12_bodyFrom 5 (some .int) ∈ BW := List.mem_of_getElem? (i := 1364) (by decide +kernel)
theorem m_1356 : Cond.methodLink RX12 357 yX12_bodyFrom ∈ BW := List.mem_of_getElem? (i := 1356) (by decide +kernel)
theorem m_1357 : Cond.instanceMethod yX12_bodyFrom ∈ BW := List.mem_of_getElem? (i := 1357) (by decide +kernel)
theorem m_1358 : Cond.selects RX12 yX12_bodyFrom yX12_bodyFrom ∈ BW := List.mem_of_getElem? (i := 1358) (by decide +kernel)
theorem si_X12_357 : SV RX12 RX12 357 yX12_bodyFrom cX12_bodyFrom 5 (some .int) 3 := ⟨⟨m_1356, m_1357, m_1358, m_5, m_1364⟩, rfl, by decide +kernel, by decide +kernel, by decide +kernel⟩
theorem dX12_body_287 : decode cX12_body 287 = .ok (.aload_n 0, 1) := by decide +kernel
theorem dX12_body_288 : decode cX12_body 288 = .ok (.getfield 378, 3) := by decide +kernel
theorem m_1348 : Cond.fieldLink RX12 378 "InquiryBenchModel" "numbe\x72" "I" ∈ BW := List.mem_of_getElem? (i := 1348) (by decide +kernel)
theorem gf_X12_378 (hC : CX p s m meth c y0 b0 mL0 rt0 args) (hy0 : y0.cls = RX12) (hK : KK G s) (hP : va_P G.1 vwCl ws H) (q0 : Nat) {fs : List Value} {v : Value} (he : ws[q0]? = some (a, .inr (12, fs))) (hv : fs[37]? = some v) (hdg : decode b0 pc = .ok (.getfield 378, 3)) (kk : W p l e R s m args below meth c H locs cells slots Q (F0 m (pc + 3) ls (v :: rest))) : W p l e R s m args below meth c H locs cells slots Q (F0 m pc ls (.ref a :: rest)) := by
  obtain ⟨hx, hb, hr, hml, hB, hown, hlocks, hnm⟩ := hC
  rw [hy0] at hown
  exact va_get (ci := 12) (C := RX12) (T := TX12) (N := 41) hx hb hB in_X12 hown hK.1 hP q0 he rfl 37 (by decide) (hB _ m_1348) (fun _ h => h) hv hdg kk
theorem dX12_body_291 : decode cX12_body 291 = .ok (.isub, 1) := by decide +kernel
theorem dX12_body_292 : decode cX12_body 292 = .ok (.ireturn, 1) := by decide +kernel
theorem dX12_body_334 : decode cX12_body 334 = .ok (.aload_n 0, 1) := by decide +kernel
theorem dX12_body_335 : decode cX12_body 335 = .ok (.bipush 61, 2) := by decide +kernel
theorem dX12_body_337 : decode cX12_body 337 = .ok (.invokevirtual 366, 3) := by decide +kernel
theorem dX12_body_340 : decode cX12_body 340 = .ok (.aload_n 0, 1) := by decide +kernel
theorem dX12_body_341 : decode cX12_body 341 = .ok (.iconst 4, 1) := by decide +kernel
theorem dX12_body_342 : decode cX12_body 342 = .ok (.iconst 0, 1) := by decide +kernel
theorem dX12_body_343 : decode cX12_body 343 = .ok (.iload_n 3, 1) := by decide +kernel
theorem dX12_body_344 : decode cX12_body 344 = .ok (.aload_n 0, 1) := by decide +kernel
theorem dX12_body_345 : decode cX12_body 345 = .ok (.getfield 375, 3) := by decide +kernel
theorem m_1349 : Cond.fieldLink RX12 375 "InquiryBenchModel" "whose" "I" ∈ BW := List.mem_of_getElem? (i := 1349) (by decide +kernel)
theorem gf_X12_375 (hC : CX p s m meth c y0 b0 mL0 rt0 args) (hy0 : y0.cls = RX12) (hK : KK G s) (hP : va_P G.1 vwCl ws H) (q0 : Nat) {fs : List Value} {v : Value} (he : ws[q0]? = some (a, .inr (12, fs))) (hv : fs[38]? = some v) (hdg : decode b0 pc = .ok (.getfield 375, 3)) (kk : W p l e R s m args below meth c H locs cells slots Q (F0 m (pc + 3) ls (v :: rest))) : W p l e R s m args below meth c H locs cells slots Q (F0 m pc ls (.ref a :: rest)) := by
  obtain ⟨hx, hb, hr, hml, hB, hown, hlocks, hnm⟩ := hC
  rw [hy0] at hown
  exact va_get (ci := 12) (C := RX12) (T := TX12) (N := 41) hx hb hB in_X12 hown hK.1 hP q0 he rfl 38 (by decide) (hB _ m_1349) (fun _ h => h) hv hdg kk
theorem dX12_body_348 : decode cX12_body 348 = .ok (.iadd, 1) := by decide +kernel
theorem dX12_body_349 : decode cX12_body 349 = .ok (.invokevirtual 357, 3) := by decide +kernel
theorem dX12_body_352 : decode cX12_body 352 = .ok (.ireturn, 1) := by decide +kernel
theorem dX12_bodyFrom_12 : decode cX12_bodyFrom 12 = .ok (.iload 4, 2) := by decide +kernel
theorem dX12_bodyFrom_14 : decode cX12_bodyFrom 14 = .ok (.invokestatic 348, 3) := by decide +kernel
theorem dX12_bodyFrom_17 : decode cX12_bodyFrom 17 = .ok (.istore 4, 2) := by decide +kernel
theorem dX12_bodyFrom_19 : decode cX12_bodyFrom 19 = .ok (.goto (-16), 3) := by decide +kernel
theorem dX12_dealt_0 : decode cX12_dealt 0 = .ok (.aload_n 0, 1) := by decide +kernel
theorem dX12_dealt_1 : decode cX12_dealt 1 = .ok (.aload_n 0, 1) := by decide +kernel
theorem dX12_dealt_2 : decode cX12_dealt 2 = .ok (.getfield 354, 3) := by decide +kernel
theorem m_1347 : Cond.fieldLink RX12 354 "InquiryBenchModel" "deale\x72" "I" ∈ BW := List.mem_of_getElem? (i := 1347) (by decide +kernel)
theorem gf_X12_354 (hC : CX p s m meth c y0 b0 mL0 rt0 args) (hy0 : y0.cls = RX12) (hK : KK G s) (hP : va_P G.1 vwCl ws H) (q0 : Nat) {fs : List Value} {v : Value} (he : ws[q0]? = some (a, .inr (12, fs))) (hv : fs[36]? = some v) (hdg : decode b0 pc = .ok (.getfield 354, 3)) (kk : W p l e R s m args below meth c H locs cells slots Q (F0 m (pc + 3) ls (v :: rest))) : W p l e R s m args below meth c H locs cells slots Q (F0 m pc ls (.ref a :: rest)) := by
  obtain ⟨hx, hb, hr, hml, hB, hown, hlocks, hnm⟩ := hC
  rw [hy0] at hown
  exact va_get (ci := 12) (C := RX12) (T := TX12) (N := 41) hx hb hB in_X12 hown hK.1 hP q0 he rfl 36 (by decide) (hB _ m_1347) (fun _ h => h) hv hdg kk
theorem dX12_dealt_5 : decode cX12_dealt 5 = .ok (.iload_n 1, 1) := by decide +kernel
theorem dX12_dealt_6 : decode cX12_dealt 6 = .ok (.iload_n 2, 1) := by decide +kernel
theorem dX12_dealt_7 : decode cX12_dealt 7 = .ok (.invokevirtual 357, 3) := by decide +kernel
theorem dX12_dealt_10 : decode cX12_dealt 10 = .ok (.ireturn, 1) := by decide +kernel
theorem dX12_body_125 : decode cX12_body 125 = .ok (.aload_n 0, 1) := by decide +kernel
theorem dX12_body_126 : decode cX12_body 126 = .ok (.bipush 11, 2) := by decide +kernel
theorem dX12_body_128 : decode cX12_body 128 = .ok (.invokevirtual 366, 3) := by decide +kernel
theorem dX12_body_131 : decode cX12_body 131 = .ok (.aload_n 0, 1) := by decide +kernel
theorem dX12_body_132 : decode cX12_body 132 = .ok (.iconst 0, 1) := by decide +kernel
theorem dX12_body_133 : decode cX12_body 133 = .ok (.iload_n 3, 1) := by decide +kernel
theorem dX12_body_134 : decode cX12_body 134 = .ok (.invokevirtual 372, 3) := by decide +kernel
theorem m_1355 : Cond.code yX12_dealt cX12_dealt 3 (some .int) ∈ BW := List.mem_of_getElem? (i := 1355) (by decide +kernel)
theorem m_1352 : Cond.methodLink RX12 372 yX12_dealt ∈ BW := List.mem_of_getElem? (i := 1352) (by decide +kernel)
theorem m_1353 : Cond.instanceMethod yX12_dealt ∈ BW := List.mem_of_getElem? (i := 1353) (by decide +kernel)
theorem m_1354 : Cond.selects RX12 yX12_dealt yX12_dealt ∈ BW := List.mem_of_getElem? (i := 1354) (by decide +kernel)
theorem si_X12_372 : SV RX12 RX12 372 yX12_dealt cX12_dealt 3 (some .int) 2 := ⟨⟨m_1352, m_1353, m_1354, m_5, m_1355⟩, rfl, by decide +kernel, by decide +kernel, by decide +kernel⟩
theorem dX12_body_137 : decode cX12_body 137 = .ok (.iconst 2, 1) := by decide +kernel
theorem dX12_body_138 : decode cX12_body 138 = .ok (.imul, 1) := by decide +kernel
theorem dX12_body_139 : decode cX12_body 139 = .ok (.ireturn, 1) := by decide +kernel
theorem dX12_body_207 : decode cX12_body 207 = .ok (.aload_n 0, 1) := by decide +kernel
theorem dX12_body_208 : decode cX12_body 208 = .ok (.bipush 20, 2) := by decide +kernel
theorem dX12_body_210 : decode cX12_body 210 = .ok (.invokevirtual 366, 3) := by decide +kernel
theorem dX12_body_213 : decode cX12_body 213 = .ok (.aload_n 0, 1) := by decide +kernel
theorem dX12_body_214 : decode cX12_body 214 = .ok (.iconst 0, 1) := by decide +kernel
theorem dX12_body_215 : decode cX12_body 215 = .ok (.iconst 1, 1) := by decide +kernel
theorem dX12_body_216 : decode cX12_body 216 = .ok (.iload_n 3, 1) := by decide +kernel
theorem dX12_body_217 : decode cX12_body 217 = .ok (.invokevirtual 357, 3) := by decide +kernel
theorem dX12_body_220 : decode cX12_body 220 = .ok (.aload_n 0, 1) := by decide +kernel
theorem dX12_body_221 : decode cX12_body 221 = .ok (.getfield 378, 3) := by decide +kernel
theorem dX12_body_224 : decode cX12_body 224 = .ok (.ixor, 1) := by decide +kernel
theorem dX12_body_225 : decode cX12_body 225 = .ok (.ireturn, 1) := by decide +kernel
theorem dX12_body_242 : decode cX12_body 242 = .ok (.aload_n 0, 1) := by decide +kernel
theorem dX12_body_243 : decode cX12_body 243 = .ok (.bipush 40, 2) := by decide +kernel
theorem dX12_body_245 : decode cX12_body 245 = .ok (.invokevirtual 366, 3) := by decide +kernel
theorem dX12_body_248 : decode cX12_body 248 = .ok (.iconst 0, 1) := by decide +kernel
theorem dX12_body_249 : decode cX12_body 249 = .ok (.aload_n 0, 1) := by decide +kernel
theorem dX12_body_250 : decode cX12_body 250 = .ok (.iconst 1, 1) := by decide +kernel
theorem dX12_body_251 : decode cX12_body 251 = .ok (.iconst 1, 1) := by decide +kernel
theorem dX12_body_252 : decode cX12_body 252 = .ok (.iload_n 3, 1) := by decide +kernel
theorem dX12_body_253 : decode cX12_body 253 = .ok (.invokevirtual 357, 3) := by decide +kernel
theorem dX12_body_256 : decode cX12_body 256 = .ok (.isub, 1) := by decide +kernel
theorem dX12_body_257 : decode cX12_body 257 = .ok (.ireturn, 1) := by decide +kernel
theorem dX12_body_140 : decode cX12_body 140 = .ok (.aload_n 0, 1) := by decide +kernel
theorem dX12_body_141 : decode cX12_body 141 = .ok (.bipush 12, 2) := by decide +kernel
theorem dX12_body_143 : decode cX12_body 143 = .ok (.invokevirtual 366, 3) := by decide +kernel
theorem dX12_body_146 : decode cX12_body 146 = .ok (.aload_n 0, 1) := by decide +kernel
theorem dX12_body_147 : decode cX12_body 147 = .ok (.iconst 1, 1) := by decide +kernel
theorem dX12_body_148 : decode cX12_body 148 = .ok (.iload_n 3, 1) := by decide +kernel
theorem dX12_body_149 : decode cX12_body 149 = .ok (.invokevirtual 372, 3) := by decide +kernel
theorem dX12_body_152 : decode cX12_body 152 = .ok (.aload_n 0, 1) := by decide +kernel
theorem dX12_body_153 : decode cX12_body 153 = .ok (.getfield 375, 3) := by decide +kernel
theorem dX12_body_156 : decode cX12_body 156 = .ok (.isub, 1) := by decide +kernel
theorem dX12_body_157 : decode cX12_body 157 = .ok (.ireturn, 1) := by decide +kernel
theorem dX12_body_226 : decode cX12_body 226 = .ok (.aload_n 0, 1) := by decide +kernel
theorem dX12_body_227 : decode cX12_body 227 = .ok (.bipush 30, 2) := by decide +kernel
theorem dX12_body_229 : decode cX12_body 229 = .ok (.invokevirtual 366, 3) := by decide +kernel
theorem dX12_body_232 : decode cX12_body 232 = .ok (.aload_n 0, 1) := by decide +kernel
theorem dX12_body_233 : decode cX12_body 233 = .ok (.iconst 0, 1) := by decide +kernel
theorem dX12_body_234 : decode cX12_body 234 = .ok (.iconst 2, 1) := by decide +kernel
theorem dX12_body_235 : decode cX12_body 235 = .ok (.iload_n 3, 1) := by decide +kernel
theorem dX12_body_236 : decode cX12_body 236 = .ok (.invokevirtual 357, 3) := by decide +kernel
theorem dX12_body_239 : decode cX12_body 239 = .ok (.iconst 3, 1) := by decide +kernel
theorem dX12_body_240 : decode cX12_body 240 = .ok (.imul, 1) := by decide +kernel
theorem dX12_body_241 : decode cX12_body 241 = .ok (.ireturn, 1) := by decide +kernel
theorem dX12_body_293 : decode cX12_body 293 = .ok (.aload_n 0, 1) := by decide +kernel
theorem dX12_body_294 : decode cX12_body 294 = .ok (.bipush 51, 2) := by decide +kernel
theorem dX12_body_296 : decode cX12_body 296 = .ok (.invokevirtual 366, 3) := by decide +kernel
theorem dX12_body_299 : decode cX12_body 299 = .ok (.aload_n 0, 1) := by decide +kernel
theorem dX12_body_300 : decode cX12_body 300 = .ok (.iconst 0, 1) := by decide +kernel
theorem dX12_body_301 : decode cX12_body 301 = .ok (.iconst 2, 1) := by decide +kernel
theorem dX12_body_302 : decode cX12_body 302 = .ok (.iload_n 3, 1) := by decide +kernel
theorem dX12_body_303 : decode cX12_body 303 = .ok (.invokevirtual 357, 3) := by decide +kernel
theorem dX12_body_306 : decode cX12_body 306 = .ok (.istore 4, 2) := by decide +kernel
theorem dX12_body_308 : decode cX12_body 308 = .ok (.iload 4, 2) := by decide +kernel
theorem dX12_body_310 : decode cX12_body 310 = .ok (.aload_n 0, 1) := by decide +kernel
theorem dX12_body_311 : decode cX12_body 311 = .ok (.iconst 1, 1) := by decide +kernel
theorem dX12_body_312 : decode cX12_body 312 = .ok (.iconst 1, 1) := by decide +kernel
theorem dX12_body_313 : decode cX12_body 313 = .ok (.invokevirtual 372, 3) := by decide +kernel
theorem dX12_body_316 : decode cX12_body 316 = .ok (.iadd, 1) := by decide +kernel
theorem dX12_body_317 : decode cX12_body 317 = .ok (.ireturn, 1) := by decide +kernel
theorem dX12_body_318 : decode cX12_body 318 = .ok (.aload_n 0, 1) := by decide +kernel
theorem dX12_body_319 : decode cX12_body 319 = .ok (.bipush 60, 2) := by decide +kernel
theorem dX12_body_321 : decode cX12_body 321 = .ok (.invokevirtual 366, 3) := by decide +kernel
theorem dX12_body_324 : decode cX12_body 324 = .ok (.aload_n 0, 1) := by decide +kernel
theorem dX12_body_325 : decode cX12_body 325 = .ok (.iconst 4, 1) := by decide +kernel
theorem dX12_body_326 : decode cX12_body 326 = .ok (.iconst 2, 1) := by decide +kernel
theorem dX12_body_327 : decode cX12_body 327 = .ok (.iload_n 3, 1) := by decide +kernel
theorem dX12_body_328 : decode cX12_body 328 = .ok (.invokevirtual 357, 3) := by decide +kernel
theorem dX12_body_331 : decode cX12_body 331 = .ok (.iconst 2, 1) := by decide +kernel
theorem dX12_body_332 : decode cX12_body 332 = .ok (.imul, 1) := by decide +kernel
theorem dX12_body_333 : decode cX12_body 333 = .ok (.ireturn, 1) := by decide +kernel
theorem dX12_body_158 : decode cX12_body 158 = .ok (.aload_n 0, 1) := by decide +kernel
theorem dX12_body_159 : decode cX12_body 159 = .ok (.bipush 13, 2) := by decide +kernel
theorem dX12_body_161 : decode cX12_body 161 = .ok (.invokevirtual 366, 3) := by decide +kernel
theorem dX12_body_164 : decode cX12_body 164 = .ok (.aload_n 0, 1) := by decide +kernel
theorem dX12_body_165 : decode cX12_body 165 = .ok (.aload_n 0, 1) := by decide +kernel
theorem dX12_body_166 : decode cX12_body 166 = .ok (.getfield 375, 3) := by decide +kernel
theorem dX12_body_169 : decode cX12_body 169 = .ok (.aload_n 0, 1) := by decide +kernel
theorem dX12_body_170 : decode cX12_body 170 = .ok (.getfield 378, 3) := by decide +kernel
theorem dX12_body_173 : decode cX12_body 173 = .ok (.if_icmp .ne 7, 3) := by decide +kernel
theorem dX12_body_180 : decode cX12_body 180 = .ok (.iconst 0, 1) := by decide +kernel
theorem dX12_body_181 : decode cX12_body 181 = .ok (.putfield 380, 3) := by decide +kernel
theorem m_1351 : Cond.fieldLink RX12 380 "InquiryBenchModel" "isParted" "Z" ∈ BW := List.mem_of_getElem? (i := 1351) (by decide +kernel)
theorem pf_X12_380 (hC : CX p s m meth c y0 b0 mL0 rt0 args) (hy0 : y0.cls = RX12) (hK : KK G s) (hP : va_P G.1 vwCl ws H) (hD : va_D A ws) (hS : va_S A H0 H locs) (q0 : Nat) {fs : List Value} {v : Value} {ws' : va_W} (he : ws[q0]? = some (a, .inr (12, fs))) (hl : 40 < fs.length) (hws : ws.set q0 (a, .inr (12, fs.set 40 v)) = ws') (hn : narrow .boolean v = v) (hfit : fits .boolean v = true) (hdg : decode b0 pc = .ok (.putfield 380, 3)) (kk : ∀ (H1 : Heap) (locs1 : List Loc), va_P G.1 vwCl ws' H1 → va_D A ws' → va_S A H0 H1 locs1 → W p l e R s m args below meth c H1 locs1 cells slots Q (F0 m (pc + 3) ls rest)) : W p l e R s m args below meth c H locs cells slots Q (F0 m pc ls (v :: .ref a :: rest)) := by
  obtain ⟨hx, hb, hr, hml, hB, hown, hlocks, hnm⟩ := hC
  rw [hy0] at hown
  subst hws
  exact va_put (ci := 12) (ty := .boolean) (C := RX12) (T := TX12) (N := 41) hx hb hB in_X12 tyX12 tyX12_ok nmX12 hown hK.1 hP hD hS q0 he rfl 40 (by decide) (hB _ m_1351) (fun _ h => h) rfl (by decide +kernel) hn hfit hl hdg kk
theorem dX12_body_184 : decode cX12_body 184 = .ok (.aload_n 0, 1) := by decide +kernel
theorem dX12_body_185 : decode cX12_body 185 = .ok (.getfield 380, 3) := by decide +kernel
theorem gf_X12_380 (hC : CX p s m meth c y0 b0 mL0 rt0 args) (hy0 : y0.cls = RX12) (hK : KK G s) (hP : va_P G.1 vwCl ws H) (q0 : Nat) {fs : List Value} {v : Value} (he : ws[q0]? = some (a, .inr (12, fs))) (hv : fs[40]? = some v) (hdg : decode b0 pc = .ok (.getfield 380, 3)) (kk : W p l e R s m args below meth c H locs cells slots Q (F0 m (pc + 3) ls (v :: rest))) : W p l e R s m args below meth c H locs cells slots Q (F0 m pc ls (.ref a :: rest)) := by
  obtain ⟨hx, hb, hr, hml, hB, hown, hlocks, hnm⟩ := hC
  rw [hy0] at hown
  exact va_get (ci := 12) (C := RX12) (T := TX12) (N := 41) hx hb hB in_X12 hown hK.1 hP q0 he rfl 40 (by decide) (hB _ m_1351) (fun _ h => h) hv hdg kk
theorem dX12_body_188 : decode cX12_body 188 = .ok (.ifCond .eq 7, 3) := by decide +kernel
theorem dX12_body_195 : decode cX12_body 195 = .ok (.iload_n 3, 1) := by decide +kernel
theorem dX12_body_196 : decode cX12_body 196 = .ok (.aload_n 0, 1) := by decide +kernel
theorem dX12_body_197 : decode cX12_body 197 = .ok (.getfield 375, 3) := by decide +kernel
theorem dX12_body_200 : decode cX12_body 200 = .ok (.aload_n 0, 1) := by decide +kernel
theorem dX12_body_201 : decode cX12_body 201 = .ok (.getfield 378, 3) := by decide +kernel
theorem dX12_body_204 : decode cX12_body 204 = .ok (.isub, 1) := by decide +kernel
theorem dX12_body_205 : decode cX12_body 205 = .ok (.idiv, 1) := by decide +kernel
theorem dX12_body_206 : decode cX12_body 206 = .ok (.ireturn, 1) := by decide +kernel
theorem dX12_body_176 : decode cX12_body 176 = .ok (.iconst 1, 1) := by decide +kernel
theorem dX12_body_177 : decode cX12_body 177 = .ok (.goto 4, 3) := by decide +kernel
theorem dX12_body_191 : decode cX12_body 191 = .ok (.iconst 0, 1) := by decide +kernel
theorem dX12_body_192 : decode cX12_body 192 = .ok (.goto 14, 3) := by decide +kernel
theorem dX12_body_258 : decode cX12_body 258 = .ok (.aload_n 0, 1) := by decide +kernel
theorem dX12_body_259 : decode cX12_body 259 = .ok (.bipush 41, 2) := by decide +kernel
theorem dX12_body_261 : decode cX12_body 261 = .ok (.invokevirtual 366, 3) := by decide +kernel
theorem dX12_body_264 : decode cX12_body 264 = .ok (.aload_n 0, 1) := by decide +kernel
theorem dX12_body_265 : decode cX12_body 265 = .ok (.iconst 1, 1) := by decide +kernel
theorem dX12_body_266 : decode cX12_body 266 = .ok (.iconst 3, 1) := by decide +kernel
theorem dX12_body_267 : decode cX12_body 267 = .ok (.iload_n 3, 1) := by decide +kernel
theorem dX12_body_268 : decode cX12_body 268 = .ok (.iconst 2, 1) := by decide +kernel
theorem dX12_body_269 : decode cX12_body 269 = .ok (.iadd, 1) := by decide +kernel
theorem dX12_body_270 : decode cX12_body 270 = .ok (.invokevirtual 357, 3) := by decide +kernel
theorem dX12_body_273 : decode cX12_body 273 = .ok (.ireturn, 1) := by decide +kernel
theorem dX12_body_353 : decode cX12_body 353 = .ok (.aload_n 0, 1) := by decide +kernel
theorem dX12_body_354 : decode cX12_body 354 = .ok (.bipush 70, 2) := by decide +kernel
theorem dX12_body_356 : decode cX12_body 356 = .ok (.invokevirtual 366, 3) := by decide +kernel
theorem dX12_body_359 : decode cX12_body 359 = .ok (.aload_n 0, 1) := by decide +kernel
theorem dX12_body_360 : decode cX12_body 360 = .ok (.iconst 0, 1) := by decide +kernel
theorem dX12_body_361 : decode cX12_body 361 = .ok (.iconst 3, 1) := by decide +kernel
theorem dX12_body_362 : decode cX12_body 362 = .ok (.iload_n 3, 1) := by decide +kernel
theorem dX12_body_363 : decode cX12_body 363 = .ok (.invokevirtual 357, 3) := by decide +kernel
theorem dX12_body_366 : decode cX12_body 366 = .ok (.istore 5, 2) := by decide +kernel
theorem dX12_body_368 : decode cX12_body 368 = .ok (.aload_n 0, 1) := by decide +kernel
theorem dX12_body_369 : decode cX12_body 369 = .ok (.getfield 380, 3) := by decide +kernel
theorem dX12_body_372 : decode cX12_body 372 = .ok (.ifCond .eq 7, 3) := by decide +kernel
theorem dX12_body_379 : decode cX12_body 379 = .ok (.iload 5, 2) := by decide +kernel
theorem dX12_body_381 : decode cX12_body 381 = .ok (.aload_n 0, 1) := by decide +kernel
theorem dX12_body_382 : decode cX12_body 382 = .ok (.iconst 0, 1) := by decide +kernel
theorem dX12_body_383 : decode cX12_body 383 = .ok (.aload_n 0, 1) := by decide +kernel
theorem dX12_body_384 : decode cX12_body 384 = .ok (.getfield 378, 3) := by decide +kernel
theorem dX12_body_387 : decode cX12_body 387 = .ok (.invokevirtual 372, 3) := by decide +kernel
theorem dX12_body_390 : decode cX12_body 390 = .ok (.isub, 1) := by decide +kernel
theorem dX12_body_391 : decode cX12_body 391 = .ok (.ireturn, 1) := by decide +kernel
theorem dX12_body_375 : decode cX12_body 375 = .ok (.iconst 0, 1) := by decide +kernel
theorem dX12_body_376 : decode cX12_body 376 = .ok (.goto 15, 3) := by decide +kernel
theorem dX12_deal_0 : decode cX12_deal 0 = .ok (.aload_n 0, 1) := by decide +kernel
theorem dX12_deal_1 : decode cX12_deal 1 = .ok (.iconst 0, 1) := by decide +kernel
theorem dX12_deal_2 : decode cX12_deal 2 = .ok (.putfield 351, 3) := by decide +kernel
theorem dX12_deal_5 : decode cX12_deal 5 = .ok (.iload_n 1, 1) := by decide +kernel
theorem dX12_deal_6 : decode cX12_deal 6 = .ok (.invokestatic 336, 3) := by decide +kernel
theorem dX12_deal_9 : decode cX12_deal 9 = .ok (.ifCond .eq 10, 3) := by decide +kernel
theorem dX12_deal_12 : decode cX12_deal 12 = .ok (.iload_n 2, 1) := by decide +kernel
theorem dX12_deal_13 : decode cX12_deal 13 = .ok (.invokestatic 336, 3) := by decide +kernel
theorem dX12_deal_16 : decode cX12_deal 16 = .ok (.ifCond .ne 7, 3) := by decide +kernel
theorem dX12_deal_23 : decode cX12_deal 23 = .ok (.aload_n 0, 1) := by decide +kernel
theorem dX12_deal_24 : decode cX12_deal 24 = .ok (.iload_n 1, 1) := by decide +kernel
theorem dX12_deal_25 : decode cX12_deal 25 = .ok (.invokevirtual 345, 3) := by decide +kernel
theorem dX12_deal_28 : decode cX12_deal 28 = .ok (.istore 4, 2) := by decide +kernel
theorem dX12_deal_30 : decode cX12_deal 30 = .ok (.iload 4, 2) := by decide +kernel
theorem dX12_deal_32 : decode cX12_deal 32 = .ok (.ifCond .ge 5, 3) := by decide +kernel
theorem dX12_deal_35 : decode cX12_deal 35 = .ok (.iconst 0, 1) := by decide +kernel
theorem dX12_deal_36 : decode cX12_deal 36 = .ok (.ireturn, 1) := by decide +kernel
theorem dX12_deal_37 : decode cX12_deal 37 = .ok (.aload_n 0, 1) := by decide +kernel
theorem dX12_deal_38 : decode cX12_deal 38 = .ok (.iload 4, 2) := by decide +kernel
theorem dX12_deal_40 : decode cX12_deal 40 = .ok (.putfield 354, 3) := by decide +kernel
theorem pf_X12_354 (hC : CX p s m meth c y0 b0 mL0 rt0 args) (hy0 : y0.cls = RX12) (hK : KK G s) (hP : va_P G.1 vwCl ws H) (hD : va_D A ws) (hS : va_S A H0 H locs) (q0 : Nat) {fs : List Value} {v : Value} {ws' : va_W} (he : ws[q0]? = some (a, .inr (12, fs))) (hl : 36 < fs.length) (hws : ws.set q0 (a, .inr (12, fs.set 36 v)) = ws') (hn : narrow .int v = v) (hfit : fits .int v = true) (hdg : decode b0 pc = .ok (.putfield 354, 3)) (kk : ∀ (H1 : Heap) (locs1 : List Loc), va_P G.1 vwCl ws' H1 → va_D A ws' → va_S A H0 H1 locs1 → W p l e R s m args below meth c H1 locs1 cells slots Q (F0 m (pc + 3) ls rest)) : W p l e R s m args below meth c H locs cells slots Q (F0 m pc ls (v :: .ref a :: rest)) := by
  obtain ⟨hx, hb, hr, hml, hB, hown, hlocks, hnm⟩ := hC
  rw [hy0] at hown
  subst hws
  exact va_put (ci := 12) (ty := .int) (C := RX12) (T := TX12) (N := 41) hx hb hB in_X12 tyX12 tyX12_ok nmX12 hown hK.1 hP hD hS q0 he rfl 36 (by decide) (hB _ m_1347) (fun _ h => h) rfl (by decide +kernel) hn hfit hl hdg kk
theorem dX12_deal_43 : decode cX12_deal 43 = .ok (.aload_n 0, 1) := by decide +kernel
theorem dX12_deal_44 : decode cX12_deal 44 = .ok (.aload_n 0, 1) := by decide +kernel
theorem dX12_deal_45 : decode cX12_deal 45 = .ok (.getfield 75, 3) := by decide +kernel
theorem dX12_deal_48 : decode cX12_deal 48 = .ok (.iload_n 1, 1) := by decide +kernel
theorem dX12_deal_49 : decode cX12_deal 49 = .ok (.iaload, 1) := by decide +kernel
theorem dX12_deal_50 : decode cX12_deal 50 = .ok (.putfield 378, 3) := by decide +kernel
theorem pf_X12_378 (hC : CX p s m meth c y0 b0 mL0 rt0 args) (hy0 : y0.cls = RX12) (hK : KK G s) (hP : va_P G.1 vwCl ws H) (hD : va_D A ws) (hS : va_S A H0 H locs) (q0 : Nat) {fs : List Value} {v : Value} {ws' : va_W} (he : ws[q0]? = some (a, .inr (12, fs))) (hl : 37 < fs.length) (hws : ws.set q0 (a, .inr (12, fs.set 37 v)) = ws') (hn : narrow .int v = v) (hfit : fits .int v = true) (hdg : decode b0 pc = .ok (.putfield 378, 3)) (kk : ∀ (H1 : Heap) (locs1 : List Loc), va_P G.1 vwCl ws' H1 → va_D A ws' → va_S A H0 H1 locs1 → W p l e R s m args below meth c H1 locs1 cells slots Q (F0 m (pc + 3) ls rest)) : W p l e R s m args below meth c H locs cells slots Q (F0 m pc ls (v :: .ref a :: rest)) := by
  obtain ⟨hx, hb, hr, hml, hB, hown, hlocks, hnm⟩ := hC
  rw [hy0] at hown
  subst hws
  exact va_put (ci := 12) (ty := .int) (C := RX12) (T := TX12) (N := 41) hx hb hB in_X12 tyX12 tyX12_ok nmX12 hown hK.1 hP hD hS q0 he rfl 37 (by decide) (hB _ m_1348) (fun _ h => h) rfl (by decide +kernel) hn hfit hl hdg kk
theorem dX12_deal_53 : decode cX12_deal 53 = .ok (.aload_n 0, 1) := by decide +kernel
theorem dX12_deal_54 : decode cX12_deal 54 = .ok (.getfield 72, 3) := by decide +kernel
theorem dX12_deal_57 : decode cX12_deal 57 = .ok (.iload_n 1, 1) := by decide +kernel
theorem dX12_deal_58 : decode cX12_deal 58 = .ok (.iaload, 1) := by decide +kernel
theorem dX12_deal_59 : decode cX12_deal 59 = .ok (.iconst 1, 1) := by decide +kernel
theorem dX12_deal_60 : decode cX12_deal 60 = .ok (.if_icmp .ne 7, 3) := by decide +kernel
theorem dX12_deal_63 : decode cX12_deal 63 = .ok (.iconst 1, 1) := by decide +kernel
theorem dX12_deal_64 : decode cX12_deal 64 = .ok (.goto 4, 3) := by decide +kernel
theorem dX12_deal_68 : decode cX12_deal 68 = .ok (.istore 5, 2) := by decide +kernel
theorem dX12_deal_70 : decode cX12_deal 70 = .ok (.aload_n 0, 1) := by decide +kernel
theorem dX12_deal_71 : decode cX12_deal 71 = .ok (.getfield 72, 3) := by decide +kernel
theorem dX12_deal_74 : decode cX12_deal 74 = .ok (.iload_n 1, 1) := by decide +kernel
theorem dX12_deal_75 : decode cX12_deal 75 = .ok (.iaload, 1) := by decide +kernel
theorem dX12_deal_76 : decode cX12_deal 76 = .ok (.iconst 2, 1) := by decide +kernel
theorem dX12_deal_77 : decode cX12_deal 77 = .ok (.if_icmp .ne 7, 3) := by decide +kernel
theorem dX12_deal_84 : decode cX12_deal 84 = .ok (.iconst 0, 1) := by decide +kernel
theorem dX12_deal_85 : decode cX12_deal 85 = .ok (.istore 6, 2) := by decide +kernel
theorem dX12_deal_87 : decode cX12_deal 87 = .ok (.aload_n 0, 1) := by decide +kernel
theorem dX12_deal_88 : decode cX12_deal 88 = .ok (.iload 5, 2) := by decide +kernel
theorem dX12_deal_90 : decode cX12_deal 90 = .ok (.ifCond .eq 15, 3) := by decide +kernel
theorem dX12_deal_93 : decode cX12_deal 93 = .ok (.aload_n 0, 1) := by decide +kernel
theorem dX12_deal_94 : decode cX12_deal 94 = .ok (.aload_n 0, 1) := by decide +kernel
theorem dX12_deal_95 : decode cX12_deal 95 = .ok (.getfield 378, 3) := by decide +kernel
theorem dX12_deal_98 : decode cX12_deal 98 = .ok (.iconst 0, 1) := by decide +kernel
theorem dX12_deal_99 : decode cX12_deal 99 = .ok (.invokevirtual 88, 3) := by decide +kernel
theorem dX12_deal_102 : decode cX12_deal 102 = .ok (.goto 37, 3) := by decide +kernel
theorem dX12_deal_139 : decode cX12_deal 139 = .ok (.putfield 375, 3) := by decide +kernel
theorem pf_X12_375 (hC : CX p s m meth c y0 b0 mL0 rt0 args) (hy0 : y0.cls = RX12) (hK : KK G s) (hP : va_P G.1 vwCl ws H) (hD : va_D A ws) (hS : va_S A H0 H locs) (q0 : Nat) {fs : List Value} {v : Value} {ws' : va_W} (he : ws[q0]? = some (a, .inr (12, fs))) (hl : 38 < fs.length) (hws : ws.set q0 (a, .inr (12, fs.set 38 v)) = ws') (hn : narrow .int v = v) (hfit : fits .int v = true) (hdg : decode b0 pc = .ok (.putfield 375, 3)) (kk : ∀ (H1 : Heap) (locs1 : List Loc), va_P G.1 vwCl ws' H1 → va_D A ws' → va_S A H0 H1 locs1 → W p l e R s m args below meth c H1 locs1 cells slots Q (F0 m (pc + 3) ls rest)) : W p l e R s m args below meth c H locs cells slots Q (F0 m pc ls (v :: .ref a :: rest)) := by
  obtain ⟨hx, hb, hr, hml, hB, hown, hlocks, hnm⟩ := hC
  rw [hy0] at hown
  subst hws
  exact va_put (ci := 12) (ty := .int) (C := RX12) (T := TX12) (N := 41) hx hb hB in_X12 tyX12 tyX12_ok nmX12 hown hK.1 hP hD hS q0 he rfl 38 (by decide) (hB _ m_1349) (fun _ h => h) rfl (by decide +kernel) hn hfit hl hdg kk
theorem dX12_deal_142 : decode cX12_deal 142 = .ok (.aload_n 0, 1) := by decide +kernel
theorem dX12_deal_143 : decode cX12_deal 143 = .ok (.iload 5, 2) := by decide +kernel
theorem dX12_deal_145 : decode cX12_deal 145 = .ok (.ifCond .eq 15, 3) := by decide +kernel
theorem dX12_deal_148 : decode cX12_deal 148 = .ok (.aload_n 0, 1) := by decide +kernel
theorem dX12_deal_149 : decode cX12_deal 149 = .ok (.aload_n 0, 1) := by decide +kernel
theorem dX12_deal_150 : decode cX12_deal 150 = .ok (.getfield 378, 3) := by decide +kernel
theorem dX12_deal_153 : decode cX12_deal 153 = .ok (.iconst 2, 1) := by decide +kernel
theorem dX12_deal_154 : decode cX12_deal 154 = .ok (.invokevirtual 88, 3) := by decide +kernel
theorem dX12_deal_157 : decode cX12_deal 157 = .ok (.goto 37, 3) := by decide +kernel
theorem dX12_deal_194 : decode cX12_deal 194 = .ok (.putfield 369, 3) := by decide +kernel
theorem pf_X12_369 (hC : CX p s m meth c y0 b0 mL0 rt0 args) (hy0 : y0.cls = RX12) (hK : KK G s) (hP : va_P G.1 vwCl ws H) (hD : va_D A ws) (hS : va_S A H0 H locs) (q0 : Nat) {fs : List Value} {v : Value} {ws' : va_W} (he : ws[q0]? = some (a, .inr (12, fs))) (hl : 39 < fs.length) (hws : ws.set q0 (a, .inr (12, fs.set 39 v)) = ws') (hn : narrow .int v = v) (hfit : fits .int v = true) (hdg : decode b0 pc = .ok (.putfield 369, 3)) (kk : ∀ (H1 : Heap) (locs1 : List Loc), va_P G.1 vwCl ws' H1 → va_D A ws' → va_S A H0 H1 locs1 → W p l e R s m args below meth c H1 locs1 cells slots Q (F0 m (pc + 3) ls rest)) : W p l e R s m args below meth c H locs cells slots Q (F0 m pc ls (v :: .ref a :: rest)) := by
  obtain ⟨hx, hb, hr, hml, hB, hown, hlocks, hnm⟩ := hC
  rw [hy0] at hown
  subst hws
  exact va_put (ci := 12) (ty := .int) (C := RX12) (T := TX12) (N := 41) hx hb hB in_X12 tyX12 tyX12_ok nmX12 hown hK.1 hP hD hS q0 he rfl 39 (by decide) (hB _ m_1350) (fun _ h => h) rfl (by decide +kernel) hn hfit hl hdg kk
theorem dX12_deal_197 : decode cX12_deal 197 = .ok (.aload_n 0, 1) := by decide +kernel
theorem dX12_deal_198 : decode cX12_deal 198 = .ok (.iconst 0, 1) := by decide +kernel
theorem dX12_deal_199 : decode cX12_deal 199 = .ok (.putfield 380, 3) := by decide +kernel
theorem dX12_deal_202 : decode cX12_deal 202 = .ok (.aload_n 0, 1) := by decide +kernel
theorem dX12_deal_203 : decode cX12_deal 203 = .ok (.iload_n 2, 1) := by decide +kernel
theorem dX12_deal_204 : decode cX12_deal 204 = .ok (.iload_n 3, 1) := by decide +kernel
theorem dX12_deal_205 : decode cX12_deal 205 = .ok (.invokevirtual 372, 3) := by decide +kernel
theorem dX12_deal_208 : decode cX12_deal 208 = .ok (.istore 7, 2) := by decide +kernel
theorem dX12_deal_210 : decode cX12_deal 210 = .ok (.aload_n 0, 1) := by decide +kernel
theorem dX12_deal_211 : decode cX12_deal 211 = .ok (.getfield 380, 3) := by decide +kernel
theorem dX12_deal_214 : decode cX12_deal 214 = .ok (.ifCond .eq 8, 3) := by decide +kernel
theorem dX12_deal_222 : decode cX12_deal 222 = .ok (.iload 7, 2) := by decide +kernel
theorem dX12_deal_224 : decode cX12_deal 224 = .ok (.ireturn, 1) := by decide +kernel
theorem dX12_deal_217 : decode cX12_deal 217 = .ok (.bipush (-15), 2) := by decide +kernel
theorem dX12_deal_219 : decode cX12_deal 219 = .ok (.goto 5, 3) := by decide +kernel
theorem dX12_deal_67 : decode cX12_deal 67 = .ok (.iconst 0, 1) := by decide +kernel
theorem dX12_deal_80 : decode cX12_deal 80 = .ok (.iconst 1, 1) := by decide +kernel
theorem dX12_deal_81 : decode cX12_deal 81 = .ok (.goto 4, 3) := by decide +kernel
theorem dX12_deal_105 : decode cX12_deal 105 = .ok (.iload 6, 2) := by decide +kernel
theorem dX12_deal_107 : decode cX12_deal 107 = .ok (.ifCond .eq 15, 3) := by decide +kernel
theorem dX12_deal_110 : decode cX12_deal 110 = .ok (.aload_n 0, 1) := by decide +kernel
theorem dX12_deal_111 : decode cX12_deal 111 = .ok (.aload_n 0, 1) := by decide +kernel
theorem dX12_deal_112 : decode cX12_deal 112 = .ok (.getfield 378, 3) := by decide +kernel
theorem dX12_deal_115 : decode cX12_deal 115 = .ok (.iconst 0, 1) := by decide +kernel
theorem dX12_deal_116 : decode cX12_deal 116 = .ok (.invokevirtual 114, 3) := by decide +kernel
theorem dX12_deal_119 : decode cX12_deal 119 = .ok (.goto 20, 3) := by decide +kernel
theorem dX12_deal_160 : decode cX12_deal 160 = .ok (.iload 6, 2) := by decide +kernel
theorem dX12_deal_162 : decode cX12_deal 162 = .ok (.ifCond .eq 15, 3) := by decide +kernel
theorem dX12_deal_165 : decode cX12_deal 165 = .ok (.aload_n 0, 1) := by decide +kernel
theorem dX12_deal_166 : decode cX12_deal 166 = .ok (.aload_n 0, 1) := by decide +kernel
theorem dX12_deal_167 : decode cX12_deal 167 = .ok (.getfield 378, 3) := by decide +kernel
theorem dX12_deal_170 : decode cX12_deal 170 = .ok (.iconst 4, 1) := by decide +kernel
theorem dX12_deal_171 : decode cX12_deal 171 = .ok (.invokevirtual 114, 3) := by decide +kernel
theorem dX12_deal_174 : decode cX12_deal 174 = .ok (.goto 20, 3) := by decide +kernel
theorem dX12_deal_122 : decode cX12_deal 122 = .ok (.aload_n 0, 1) := by decide +kernel
theorem dX12_deal_123 : decode cX12_deal 123 = .ok (.getfield 9, 3) := by decide +kernel
theorem dX12_deal_126 : decode cX12_deal 126 = .ok (.sipush 1552, 3) := by decide +kernel
theorem dX12_deal_129 : decode cX12_deal 129 = .ok (.iconst 4, 1) := by decide +kernel
theorem dX12_deal_130 : decode cX12_deal 130 = .ok (.aload_n 0, 1) := by decide +kernel
theorem dX12_deal_131 : decode cX12_deal 131 = .ok (.getfield 378, 3) := by decide +kernel
theorem dX12_deal_134 : decode cX12_deal 134 = .ok (.imul, 1) := by decide +kernel
theorem dX12_deal_135 : decode cX12_deal 135 = .ok (.iadd, 1) := by decide +kernel
theorem dX12_deal_136 : decode cX12_deal 136 = .ok (.iconst 0, 1) := by decide +kernel
theorem dX12_deal_137 : decode cX12_deal 137 = .ok (.iadd, 1) := by decide +kernel
theorem dX12_deal_138 : decode cX12_deal 138 = .ok (.iaload, 1) := by decide +kernel
theorem dX12_deal_177 : decode cX12_deal 177 = .ok (.aload_n 0, 1) := by decide +kernel
theorem dX12_deal_178 : decode cX12_deal 178 = .ok (.getfield 9, 3) := by decide +kernel
theorem dX12_deal_181 : decode cX12_deal 181 = .ok (.sipush 1552, 3) := by decide +kernel
theorem dX12_deal_184 : decode cX12_deal 184 = .ok (.iconst 4, 1) := by decide +kernel
theorem dX12_deal_185 : decode cX12_deal 185 = .ok (.aload_n 0, 1) := by decide +kernel
theorem dX12_deal_186 : decode cX12_deal 186 = .ok (.getfield 378, 3) := by decide +kernel
theorem dX12_deal_189 : decode cX12_deal 189 = .ok (.imul, 1) := by decide +kernel
theorem dX12_deal_190 : decode cX12_deal 190 = .ok (.iadd, 1) := by decide +kernel
theorem dX12_deal_191 : decode cX12_deal 191 = .ok (.iconst 2, 1) := by decide +kernel
theorem dX12_deal_192 : decode cX12_deal 192 = .ok (.iadd, 1) := by decide +kernel
theorem dX12_deal_193 : decode cX12_deal 193 = .ok (.iaload, 1) := by decide +kernel
theorem dX12_deal_19 : decode cX12_deal 19 = .ok (.iconst (-1), 1) := by decide +kernel
theorem dX12_deal_20 : decode cX12_deal 20 = .ok (.goto 8, 3) := by decide +kernel
theorem dX12_trace_0 : decode cX12_trace 0 = .ok (.iload_n 1, 1) := by decide +kernel
theorem dX12_trace_1 : decode cX12_trace 1 = .ok (.iconst 0, 1) := by decide +kernel
theorem dX12_trace_2 : decode cX12_trace 2 = .ok (.aload_n 0, 1) := by decide +kernel
theorem dX12_trace_3 : decode cX12_trace 3 = .ok (.getfield 351, 3) := by decide +kernel
theorem dX12_trace_6 : decode cX12_trace 6 = .ok (.iconst 1, 1) := by decide +kernel
theorem dX12_trace_7 : decode cX12_trace 7 = .ok (.isub, 1) := by decide +kernel
theorem dX12_trace_8 : decode cX12_trace 8 = .ok (.invokestatic 84, 3) := by decide +kernel
theorem dX12_trace_11 : decode cX12_trace 11 = .ok (.ifCond .eq 12, 3) := by decide +kernel
theorem dX12_trace_14 : decode cX12_trace 14 = .ok (.aload_n 0, 1) := by decide +kernel
theorem dX12_trace_15 : decode cX12_trace 15 = .ok (.getfield 81, 3) := by decide +kernel
theorem dX12_trace_18 : decode cX12_trace 18 = .ok (.iload_n 1, 1) := by decide +kernel
theorem dX12_trace_19 : decode cX12_trace 19 = .ok (.iaload, 1) := by decide +kernel
theorem dX12_trace_20 : decode cX12_trace 20 = .ok (.goto 5, 3) := by decide +kernel
theorem dX12_trace_25 : decode cX12_trace 25 = .ok (.ireturn, 1) := by decide +kernel
theorem dX12_trace_23 : decode cX12_trace 23 = .ok (.bipush (-3), 2) := by decide +kernel
theorem dX12_many_0 : decode cX12_many 0 = .ok (.iload_n 1, 1) := by decide +kernel
theorem dX12_many_1 : decode cX12_many 1 = .ok (.tableswitch 212 0 14 #[75, 82, 89, 96, 104, 112, 120, 128, 134, 142, 181, 189, 197, 202, 207], 75) := by decide +kernel
theorem dX12_many_76 : decode cX12_many 76 = .ok (.aload_n 0, 1) := by decide +kernel
theorem dX12_many_77 : decode cX12_many 77 = .ok (.getfield 9, 3) := by decide +kernel
theorem dX12_many_80 : decode cX12_many 80 = .ok (.iconst 0, 1) := by decide +kernel
theorem dX12_many_81 : decode cX12_many 81 = .ok (.iaload, 1) := by decide +kernel
theorem dX12_many_82 : decode cX12_many 82 = .ok (.ireturn, 1) := by decide +kernel
theorem dX12_many_83 : decode cX12_many 83 = .ok (.aload_n 0, 1) := by decide +kernel
theorem dX12_many_84 : decode cX12_many 84 = .ok (.getfield 9, 3) := by decide +kernel
theorem dX12_many_87 : decode cX12_many 87 = .ok (.iconst 4, 1) := by decide +kernel
theorem dX12_many_88 : decode cX12_many 88 = .ok (.iaload, 1) := by decide +kernel
theorem dX12_many_89 : decode cX12_many 89 = .ok (.ireturn, 1) := by decide +kernel
theorem dX12_many_90 : decode cX12_many 90 = .ok (.aload_n 0, 1) := by decide +kernel
theorem dX12_many_91 : decode cX12_many 91 = .ok (.getfield 9, 3) := by decide +kernel
theorem dX12_many_94 : decode cX12_many 94 = .ok (.iconst 5, 1) := by decide +kernel
theorem dX12_many_95 : decode cX12_many 95 = .ok (.iaload, 1) := by decide +kernel
theorem dX12_many_96 : decode cX12_many 96 = .ok (.ireturn, 1) := by decide +kernel
theorem dX12_many_97 : decode cX12_many 97 = .ok (.aload_n 0, 1) := by decide +kernel
theorem dX12_many_98 : decode cX12_many 98 = .ok (.invokevirtual 107, 3) := by decide +kernel
theorem dX12_many_101 : decode cX12_many 101 = .ok (.invokestatic 110, 3) := by decide +kernel
theorem dX12_many_104 : decode cX12_many 104 = .ok (.ireturn, 1) := by decide +kernel
theorem dX12_many_105 : decode cX12_many 105 = .ok (.aload_n 0, 1) := by decide +kernel
theorem dX12_many_106 : decode cX12_many 106 = .ok (.getfield 9, 3) := by decide +kernel
theorem dX12_many_109 : decode cX12_many 109 = .ok (.bipush 6, 2) := by decide +kernel
theorem dX12_many_111 : decode cX12_many 111 = .ok (.iaload, 1) := by decide +kernel
theorem dX12_many_112 : decode cX12_many 112 = .ok (.ireturn, 1) := by decide +kernel
theorem dX12_many_113 : decode cX12_many 113 = .ok (.aload_n 0, 1) := by decide +kernel
theorem dX12_many_114 : decode cX12_many 114 = .ok (.getfield 9, 3) := by decide +kernel
theorem dX12_many_117 : decode cX12_many 117 = .ok (.bipush 7, 2) := by decide +kernel
theorem dX12_many_119 : decode cX12_many 119 = .ok (.iaload, 1) := by decide +kernel
theorem dX12_many_120 : decode cX12_many 120 = .ok (.ireturn, 1) := by decide +kernel
theorem dX12_many_121 : decode cX12_many 121 = .ok (.aload_n 0, 1) := by decide +kernel
theorem dX12_many_122 : decode cX12_many 122 = .ok (.getfield 9, 3) := by decide +kernel
theorem dX12_many_125 : decode cX12_many 125 = .ok (.bipush 8, 2) := by decide +kernel
theorem dX12_many_127 : decode cX12_many 127 = .ok (.iaload, 1) := by decide +kernel
theorem dX12_many_128 : decode cX12_many 128 = .ok (.ireturn, 1) := by decide +kernel
theorem dX12_many_129 : decode cX12_many 129 = .ok (.aload_n 0, 1) := by decide +kernel
theorem dX12_many_130 : decode cX12_many 130 = .ok (.iconst (-1), 1) := by decide +kernel
theorem dX12_many_131 : decode cX12_many 131 = .ok (.invokevirtual 127, 3) := by decide +kernel
theorem dX12_many_134 : decode cX12_many 134 = .ok (.ireturn, 1) := by decide +kernel
theorem dX12_many_135 : decode cX12_many 135 = .ok (.aload_n 0, 1) := by decide +kernel
theorem dX12_many_136 : decode cX12_many 136 = .ok (.getfield 9, 3) := by decide +kernel
theorem dX12_many_139 : decode cX12_many 139 = .ok (.bipush 9, 2) := by decide +kernel
theorem dX12_many_141 : decode cX12_many 141 = .ok (.iaload, 1) := by decide +kernel
theorem dX12_many_142 : decode cX12_many 142 = .ok (.ireturn, 1) := by decide +kernel
theorem dX12_many_143 : decode cX12_many 143 = .ok (.iconst 0, 1) := by decide +kernel
theorem dX12_many_144 : decode cX12_many 144 = .ok (.istore_n 2, 1) := by decide +kernel
theorem dX12_many_145 : decode cX12_many 145 = .ok (.iconst 0, 1) := by decide +kernel
theorem dX12_many_146 : decode cX12_many 146 = .ok (.istore_n 3, 1) := by decide +kernel
theorem dX12_many_147 : decode cX12_many 147 = .ok (.iload_n 3, 1) := by decide +kernel
theorem dX12_many_148 : decode cX12_many 148 = .ok (.aload_n 0, 1) := by decide +kernel
theorem dX12_many_149 : decode cX12_many 149 = .ok (.getfield 9, 3) := by decide +kernel
theorem dX12_many_152 : decode cX12_many 152 = .ok (.bipush 9, 2) := by decide +kernel
theorem dX12_many_154 : decode cX12_many 154 = .ok (.iaload, 1) := by decide +kernel
theorem dX12_many_155 : decode cX12_many 155 = .ok (.if_icmp .ge 25, 3) := by decide +kernel
theorem dX12_many_180 : decode cX12_many 180 = .ok (.iload_n 2, 1) := by decide +kernel
theorem dX12_many_181 : decode cX12_many 181 = .ok (.ireturn, 1) := by decide +kernel
theorem dX12_many_158 : decode cX12_many 158 = .ok (.iload_n 2, 1) := by decide +kernel
theorem dX12_many_159 : decode cX12_many 159 = .ok (.aload_n 0, 1) := by decide +kernel
theorem dX12_many_160 : decode cX12_many 160 = .ok (.iload_n 3, 1) := by decide +kernel
theorem dX12_many_161 : decode cX12_many 161 = .ok (.invokevirtual 305, 3) := by decide +kernel
theorem dX12_many_164 : decode cX12_many 164 = .ok (.ifCond .eq 7, 3) := by decide +kernel
theorem dX12_many_167 : decode cX12_many 167 = .ok (.iconst 1, 1) := by decide +kernel
theorem dX12_many_168 : decode cX12_many 168 = .ok (.goto 4, 3) := by decide +kernel
theorem dX12_many_172 : decode cX12_many 172 = .ok (.iadd, 1) := by decide +kernel
theorem dX12_many_173 : decode cX12_many 173 = .ok (.istore_n 2, 1) := by decide +kernel
theorem dX12_many_174 : decode cX12_many 174 = .ok (.iinc 3 1, 3) := by decide +kernel
theorem dX12_many_177 : decode cX12_many 177 = .ok (.goto (-30), 3) := by decide +kernel
theorem dX12_many_171 : decode cX12_many 171 = .ok (.iconst 0, 1) := by decide +kernel
theorem dX12_many_182 : decode cX12_many 182 = .ok (.aload_n 0, 1) := by decide +kernel
theorem dX12_many_183 : decode cX12_many 183 = .ok (.getfield 9, 3) := by decide +kernel
theorem dX12_many_186 : decode cX12_many 186 = .ok (.bipush 10, 2) := by decide +kernel
theorem dX12_many_188 : decode cX12_many 188 = .ok (.iaload, 1) := by decide +kernel
theorem dX12_many_189 : decode cX12_many 189 = .ok (.ireturn, 1) := by decide +kernel
theorem dX12_many_190 : decode cX12_many 190 = .ok (.aload_n 0, 1) := by decide +kernel
theorem dX12_many_191 : decode cX12_many 191 = .ok (.getfield 9, 3) := by decide +kernel
theorem dX12_many_194 : decode cX12_many 194 = .ok (.bipush 11, 2) := by decide +kernel
theorem dX12_many_196 : decode cX12_many 196 = .ok (.iaload, 1) := by decide +kernel
theorem dX12_many_197 : decode cX12_many 197 = .ok (.ireturn, 1) := by decide +kernel
theorem dX12_many_198 : decode cX12_many 198 = .ok (.aload_n 0, 1) := by decide +kernel
theorem dX12_many_199 : decode cX12_many 199 = .ok (.getfield 327, 3) := by decide +kernel
theorem dX12_many_202 : decode cX12_many 202 = .ok (.ireturn, 1) := by decide +kernel
theorem dX12_many_203 : decode cX12_many 203 = .ok (.aload_n 0, 1) := by decide +kernel
theorem dX12_many_204 : decode cX12_many 204 = .ok (.getfield 206, 3) := by decide +kernel
theorem m_750 : Cond.fieldLink RX12 206 "InquiryBenchModel" "taped" "I" ∈ BW := List.mem_of_getElem? (i := 750) (by decide +kernel)
theorem gf_X12_206 (hC : CX p s m meth c y0 b0 mL0 rt0 args) (hy0 : y0.cls = RX12) (hK : KK G s) (hP : va_P G.1 vwCl ws H) (q0 : Nat) {fs : List Value} {v : Value} (he : ws[q0]? = some (a, .inr (12, fs))) (hv : fs[4]? = some v) (hdg : decode b0 pc = .ok (.getfield 206, 3)) (kk : W p l e R s m args below meth c H locs cells slots Q (F0 m (pc + 3) ls (v :: rest))) : W p l e R s m args below meth c H locs cells slots Q (F0 m pc ls (.ref a :: rest)) := by
  obtain ⟨hx, hb, hr, hml, hB, hown, hlocks, hnm⟩ := hC
  rw [hy0] at hown
  exact va_get (ci := 12) (C := RX12) (T := TX12) (N := 41) hx hb hB in_X12 hown hK.1 hP q0 he rfl 4 (by decide) (hB _ m_750) (fun _ h => h) hv hdg kk
theorem dX12_many_207 : decode cX12_many 207 = .ok (.ireturn, 1) := by decide +kernel
theorem dX12_many_208 : decode cX12_many 208 = .ok (.aload_n 0, 1) := by decide +kernel
theorem dX12_many_209 : decode cX12_many 209 = .ok (.getfield 351, 3) := by decide +kernel
theorem dX12_many_212 : decode cX12_many 212 = .ok (.ireturn, 1) := by decide +kernel
theorem dX12_many_213 : decode cX12_many 213 = .ok (.iconst (-1), 1) := by decide +kernel
theorem dX12_many_214 : decode cX12_many 214 = .ok (.ireturn, 1) := by decide +kernel
theorem dX12_keep_0 : decode cX12_keep 0 = .ok (.iconst 0, 1) := by decide +kernel
theorem dX12_keep_1 : decode cX12_keep 1 = .ok (.istore_n 1, 1) := by decide +kernel
theorem dX12_keep_2 : decode cX12_keep 2 = .ok (.iload_n 1, 1) := by decide +kernel
theorem dX12_keep_3 : decode cX12_keep 3 = .ok (.sipush 1662, 3) := by decide +kernel
theorem dX12_keep_6 : decode cX12_keep 6 = .ok (.if_icmp .ge 21, 3) := by decide +kernel
theorem dX12_keep_27 : decode cX12_keep 27 = .ok (.aload_n 0, 1) := by decide +kernel
theorem dX12_keep_28 : decode cX12_keep 28 = .ok (.iconst 1, 1) := by decide +kernel
theorem dX12_keep_29 : decode cX12_keep 29 = .ok (.putfield 383, 3) := by decide +kernel
theorem m_1420 : Cond.fieldLink RX12 383 "InquiryBenchModel" "hasKept" "Z" ∈ BW := List.mem_of_getElem? (i := 1420) (by decide +kernel)
theorem pf_X12_383 (hC : CX p s m meth c y0 b0 mL0 rt0 args) (hy0 : y0.cls = RX12) (hK : KK G s) (hP : va_P G.1 vwCl ws H) (hD : va_D A ws) (hS : va_S A H0 H locs) (q0 : Nat) {fs : List Value} {v : Value} {ws' : va_W} (he : ws[q0]? = some (a, .inr (12, fs))) (hl : 2 < fs.length) (hws : ws.set q0 (a, .inr (12, fs.set 2 v)) = ws') (hn : narrow .boolean v = v) (hfit : fits .boolean v = true) (hdg : decode b0 pc = .ok (.putfield 383, 3)) (kk : ∀ (H1 : Heap) (locs1 : List Loc), va_P G.1 vwCl ws' H1 → va_D A ws' → va_S A H0 H1 locs1 → W p l e R s m args below meth c H1 locs1 cells slots Q (F0 m (pc + 3) ls rest)) : W p l e R s m args below meth c H locs cells slots Q (F0 m pc ls (v :: .ref a :: rest)) := by
  obtain ⟨hx, hb, hr, hml, hB, hown, hlocks, hnm⟩ := hC
  rw [hy0] at hown
  subst hws
  exact va_put (ci := 12) (ty := .boolean) (C := RX12) (T := TX12) (N := 41) hx hb hB in_X12 tyX12 tyX12_ok nmX12 hown hK.1 hP hD hS q0 he rfl 2 (by decide) (hB _ m_1420) (fun _ h => h) rfl (by decide +kernel) hn hfit hl hdg kk
theorem dX12_keep_32 : decode cX12_keep 32 = .ok (.iconst 1, 1) := by decide +kernel
theorem dX12_keep_33 : decode cX12_keep 33 = .ok (.ireturn, 1) := by decide +kernel
theorem dX12_keep_9 : decode cX12_keep 9 = .ok (.aload_n 0, 1) := by decide +kernel
theorem dX12_keep_10 : decode cX12_keep 10 = .ok (.getfield 13, 3) := by decide +kernel
theorem m_188 : Cond.fieldLink RX12 13 "InquiryBenchModel" "kept" "[I" ∈ BW := List.mem_of_getElem? (i := 188) (by decide +kernel)
theorem gf_X12_13 (hC : CX p s m meth c y0 b0 mL0 rt0 args) (hy0 : y0.cls = RX12) (hK : KK G s) (hP : va_P G.1 vwCl ws H) (q0 : Nat) {fs : List Value} {v : Value} (he : ws[q0]? = some (a, .inr (12, fs))) (hv : fs[1]? = some v) (hdg : decode b0 pc = .ok (.getfield 13, 3)) (kk : W p l e R s m args below meth c H locs cells slots Q (F0 m (pc + 3) ls (v :: rest))) : W p l e R s m args below meth c H locs cells slots Q (F0 m pc ls (.ref a :: rest)) := by
  obtain ⟨hx, hb, hr, hml, hB, hown, hlocks, hnm⟩ := hC
  rw [hy0] at hown
  exact va_get (ci := 12) (C := RX12) (T := TX12) (N := 41) hx hb hB in_X12 hown hK.1 hP q0 he rfl 1 (by decide) (hB _ m_188) (fun _ h => h) hv hdg kk
theorem dX12_keep_13 : decode cX12_keep 13 = .ok (.iload_n 1, 1) := by decide +kernel
theorem dX12_keep_14 : decode cX12_keep 14 = .ok (.aload_n 0, 1) := by decide +kernel
theorem dX12_keep_15 : decode cX12_keep 15 = .ok (.getfield 9, 3) := by decide +kernel
theorem dX12_keep_18 : decode cX12_keep 18 = .ok (.iload_n 1, 1) := by decide +kernel
theorem dX12_keep_19 : decode cX12_keep 19 = .ok (.iaload, 1) := by decide +kernel
theorem dX12_keep_20 : decode cX12_keep 20 = .ok (.iastore, 1) := by decide +kernel
theorem dX12_keep_21 : decode cX12_keep 21 = .ok (.iinc 1 1, 3) := by decide +kernel
theorem dX12_keep_24 : decode cX12_keep 24 = .ok (.goto (-22), 3) := by decide +kernel
theorem dX12_again_0 : decode cX12_again 0 = .ok (.aload_n 0, 1) := by decide +kernel
theorem dX12_again_1 : decode cX12_again 1 = .ok (.getfield 383, 3) := by decide +kernel
theorem gf_X12_383 (hC : CX p s m meth c y0 b0 mL0 rt0 args) (hy0 : y0.cls = RX12) (hK : KK G s) (hP : va_P G.1 vwCl ws H) (q0 : Nat) {fs : List Value} {v : Value} (he : ws[q0]? = some (a, .inr (12, fs))) (hv : fs[2]? = some v) (hdg : decode b0 pc = .ok (.getfield 383, 3)) (kk : W p l e R s m args below meth c H locs cells slots Q (F0 m (pc + 3) ls (v :: rest))) : W p l e R s m args below meth c H locs cells slots Q (F0 m pc ls (.ref a :: rest)) := by
  obtain ⟨hx, hb, hr, hml, hB, hown, hlocks, hnm⟩ := hC
  rw [hy0] at hown
  exact va_get (ci := 12) (C := RX12) (T := TX12) (N := 41) hx hb hB in_X12 hown hK.1 hP q0 he rfl 2 (by decide) (hB _ m_1420) (fun _ h => h) hv hdg kk
theorem dX12_again_4 : decode cX12_again 4 = .ok (.ifCond .ne 6, 3) := by decide +kernel
theorem dX12_again_10 : decode cX12_again 10 = .ok (.iconst 0, 1) := by decide +kernel
theorem dX12_again_11 : decode cX12_again 11 = .ok (.istore_n 1, 1) := by decide +kernel
theorem dX12_again_12 : decode cX12_again 12 = .ok (.iload_n 1, 1) := by decide +kernel
theorem dX12_again_13 : decode cX12_again 13 = .ok (.sipush 1662, 3) := by decide +kernel
theorem dX12_again_16 : decode cX12_again 16 = .ok (.if_icmp .ge 21, 3) := by decide +kernel
theorem dX12_again_37 : decode cX12_again 37 = .ok (.iconst 1, 1) := by decide +kernel
theorem dX12_again_38 : decode cX12_again 38 = .ok (.ireturn, 1) := by decide +kernel
theorem dX12_again_19 : decode cX12_again 19 = .ok (.aload_n 0, 1) := by decide +kernel
theorem dX12_again_20 : decode cX12_again 20 = .ok (.getfield 9, 3) := by decide +kernel
theorem dX12_again_23 : decode cX12_again 23 = .ok (.iload_n 1, 1) := by decide +kernel
theorem dX12_again_24 : decode cX12_again 24 = .ok (.aload_n 0, 1) := by decide +kernel
theorem dX12_again_25 : decode cX12_again 25 = .ok (.getfield 13, 3) := by decide +kernel
theorem dX12_again_28 : decode cX12_again 28 = .ok (.iload_n 1, 1) := by decide +kernel
theorem dX12_again_29 : decode cX12_again 29 = .ok (.iaload, 1) := by decide +kernel
theorem dX12_again_30 : decode cX12_again 30 = .ok (.iastore, 1) := by decide +kernel
theorem dX12_again_31 : decode cX12_again 31 = .ok (.iinc 1 1, 3) := by decide +kernel
theorem dX12_again_34 : decode cX12_again 34 = .ok (.goto (-22), 3) := by decide +kernel
theorem dX12_again_7 : decode cX12_again 7 = .ok (.bipush (-3), 2) := by decide +kernel
theorem dX12_again_9 : decode cX12_again 9 = .ok (.ireturn, 1) := by decide +kernel
end WR
set_option maxHeartbeats 4000000 in
set_option maxRecDepth 100000 in
theorem m_kindOn (l : Launch) (G : GG) (h0 : Nat) (jt : Nat) (nw : Nat) (nk : Nat) (mhasKept : Int32) (nt : Nat) (mtaped : Int32) (nr : Nat) (mrowMany : Int32) (mroundOf : Int32) (mroundFrom : Int32) (mouts : Int32) (nm : Nat) (mfromHour : Int32) (mtoHour : Int32) (ns : Nat) (mfrom : Int32) (mto : Int32) (msort : Int32) (misFault : Int32) (mdeep : Int32) (mcoded : Int32) (mlines : Int32) (nl : Nat) (nc : Nat) (nF : Nat) (np : Nat) (ntr : Nat) (nb : Nat) (mbestCost : Int32) (nso : Nat) (nsi : Nat) (nit : Nat) (nsh : Nat) (nsf : Nat) (nss : Nat) (nrc : Nat) (mtraced : Int32) (mdealer : Int32) (mnumber : Int32) (mwhose : Int32) (msize : Int32) (misParted : Int32) (fnw : Nat → Int32) (fnsh : Nat → Int32) (fnsf : Nat → Int32) (hjt : jt < 4) (hN : NI fnw) : MP l G yX12_kindOn cX12_kindOn 4 (some .int) 3 [.ref h0, .int (nI jt)] [(h0, .inr (12, [.ref nw, .ref nk, .int mhasKept, .ref nt, .int mtaped, .ref nr, .int mrowMany, .int mroundOf, .int mroundFrom, .int mouts, .ref nm, .int mfromHour, .int mtoHour, .ref ns, .int mfrom, .int mto, .int msort, .int misFault, .int mdeep, .int mcoded, .int mlines, .ref nl, .ref nc, .ref nF, .ref np, .ref ntr, .ref nb, .int mbestCost, .ref nso, .ref nsi, .ref nit, .ref nsh, .ref nsf, .ref nss, .ref nrc, .int mtraced, .int mdealer, .int mnumber, .int mwhose, .int msize, .int misParted])), (nw, .inl (G.2.1, 1662, .inl fnw)), (nsh, .inl (G.2.1, 4, .inl fnsh)), (nsf, .inl (G.2.1, 4, .inl fnsf))] (fun r : Int32 => r = (-1) ∨ (r = 1 ∧ KO1 (fnsh jt) (fnsf jt) 1 12) ∨ (r = 2 ∧ KO1 (fnsh jt) (fnsf jt) 1 12) ∨ (r = 3 ∧ KO1 (fnsh jt) (fnsf jt) 1 12) ∨ (r = 4 ∧ KO1 (fnsh jt) (fnsf jt) 2 16) ∨ (r = 5 ∧ KO1 (fnsh jt) (fnsf jt) 2 16) ∨ (r = 6 ∧ KO1 (fnsh jt) (fnsf jt) 3 12)) := by
  refine MP.start (by decide +kernel) (Nat.le_of_ble_eq_true rfl) ?_
  intro p e s m below meth c ls hC hK hP hD hl
  have hl : lv_has ls 4 [(0, .ref h0), (1, .int (nI jt))] := hl
  obtain ⟨hx, hb, hr, hml, hB, hown, hlocks, hnm⟩ := id hC
  obtain ⟨kq, hkq, ekq⟩ := NI.nat hN (i := 5) (B := 12) (by decide +kernel) (by decide)
  obtain ⟨k8, hk8, ek8⟩ := NI.nat hN (i := 8) (B := 16) (by decide +kernel) (by decide)
  obtain ⟨k9, hk9, ek9⟩ := NI.nat hN (i := 9) (B := 12) (by decide +kernel) (by decide)
  refine lv_aload_n hx hb dX12_kindOn_0 rfl (lv_at hl 0 rfl) ?_
  refine gf_X12_75 hC rfl hK hP 0 rfl rfl dX12_kindOn_1 ?_
  refine lv_iload_n hx hb dX12_kindOn_4 rfl (lv_at hl 1 rfl) ?_
  refine ald hC hK hP 3 rfl (vp_in_nI (by omega) (by omega)) (k := jt) (nI_clamp (by omega)) (v := fnsf jt) rfl dX12_kindOn_5 ?_
  refine lv_topi (fun x5348 ex5348 => ?_)
  refine lv_istore_n (lv' := [(2, .int x5348), (0, .ref h0), (1, .int (nI jt))]) hx hb dX12_kindOn_6 rfl hl (by decide) rfl (fun ls hl => ?_)
  refine lv_aload_n hx hb dX12_kindOn_7 rfl (lv_at hl 1 rfl) ?_
  refine gf_X12_72 hC rfl hK hP 0 rfl rfl dX12_kindOn_8 ?_
  refine lv_iload_n hx hb dX12_kindOn_11 rfl (lv_at hl 2 rfl) ?_
  refine ald hC hK hP 2 rfl (vp_in_nI (by omega) (by omega)) (k := jt) (nI_clamp (by omega)) (v := fnsh jt) rfl dX12_kindOn_12 ?_
  refine lv_topi (fun x5349 ex5349 => ?_)
  by_cases c_13_5350 : x5349 = 1
  · refine lv_tableIn (tgt := 40) hx hb dX12_kindOn_13 (by rw [c_13_5350]; decide) (by rw [c_13_5350]; decide) (by rw [c_13_5350]; rfl) (by decide) ?_
    refine lv_aload_n hx hb dX12_kindOn_40 rfl (lv_at hl 1 rfl) ?_
    refine lv_iload_n hx hb dX12_kindOn_41 rfl (lv_at hl 0 rfl) ?_
    refine lv_iconst (v := 5) hx hb dX12_kindOn_42 (by decide) ?_
    refine pV hC hK hl hP hD (m_is l G kq h0 x5348 5 nw nk mhasKept nt mtaped nr mrowMany mroundOf mroundFrom mouts nm mfromHour mtoHour ns mfrom mto msort misFault mdeep mcoded mlines nl nc nF np ntr nb mbestCost nso nsi nit nsh nsf nss nrc mtraced mdealer mnumber mwhose msize misParted fnw (by omega) (ekq) (by omega)) si_X12_120 [0, 1] rfl rfl (by decide) rfl rfl rfl rfl rfl (Nat.le_of_ble_eq_true rfl) ⟨Nat.le_of_ble_eq_true rfl, Nat.le_of_ble_eq_true rfl⟩ ⟨by first | exact Nat.le_of_ble_eq_true rfl | exact Nat.zero_le _, by first | exact Nat.le_of_ble_eq_true rfl | exact Nat.zero_le _⟩ dX12_kindOn_43 (fun r5351 hr5351 => ?_)
    rcases hr5351 with ⟨rfl, a5352⟩ | ⟨rfl, a5352⟩
    · refine lv_if_eq (tgt := 73) hx hb dX12_kindOn_46 (by decide) (fun c9 => absurd c9 (by decide)) (fun _ => ?_)
      refine lv_aload_n hx hb dX12_kindOn_49 rfl (lv_at hl 1 rfl) ?_
      refine lv_iload_n hx hb dX12_kindOn_50 rfl (lv_at hl 0 rfl) ?_
      obtain ⟨jn5353, hjn5353, ek5353⟩ := Hs_nat (by omega) a5352
      refine eqi (x1 := nI jn5353) ek5353 ?_
      refine lv_iconst (v := 1) hx hb dX12_kindOn_51 (by decide) ?_
      refine pV hC hK hl hP hD (m_paper l G h0 jn5353 1 nw nk mhasKept nt mtaped nr mrowMany mroundOf mroundFrom mouts nm mfromHour mtoHour ns mfrom mto msort misFault mdeep mcoded mlines nl nc nF np ntr nb mbestCost nso nsi nit nsh nsf nss nrc mtraced mdealer mnumber mwhose msize misParted fnw (by omega) (by omega)) si_X12_88 [0, 1] rfl rfl (by decide) rfl rfl rfl rfl rfl (Nat.le_of_ble_eq_true rfl) ⟨Nat.le_of_ble_eq_true rfl, Nat.le_of_ble_eq_true rfl⟩ ⟨by first | exact Nat.le_of_ble_eq_true rfl | exact Nat.zero_le _, by first | exact Nat.le_of_ble_eq_true rfl | exact Nat.zero_le _⟩ dX12_kindOn_52 (fun r5354 hr5354 => ?_)
      obtain rfl := hr5354
      refine lv_iconst (v := 1) hx hb dX12_kindOn_55 (by decide) ?_
      refine lv_aload_n hx hb dX12_kindOn_56 rfl (lv_at hl 1 rfl) ?_
      refine lv_iload_n hx hb dX12_kindOn_57 rfl (lv_at hl 0 rfl) ?_
      obtain ⟨jn5356, hjn5356, ek5356⟩ := Hs_nat (by omega) a5352
      refine eqi (x1 := nI jn5356) ek5356 ?_
      refine lv_iconst (v := 0) hx hb dX12_kindOn_58 (by decide) ?_
      refine pV hC hK hl hP hD (m_paper l G h0 jn5356 0 nw nk mhasKept nt mtaped nr mrowMany mroundOf mroundFrom mouts nm mfromHour mtoHour ns mfrom mto msort misFault mdeep mcoded mlines nl nc nF np ntr nb mbestCost nso nsi nit nsh nsf nss nrc mtraced mdealer mnumber mwhose msize misParted fnw (by omega) (by omega)) si_X12_88 [0, 1] rfl rfl (by decide) rfl rfl rfl rfl rfl (Nat.le_of_ble_eq_true rfl) ⟨Nat.le_of_ble_eq_true rfl, Nat.le_of_ble_eq_true rfl⟩ ⟨by first | exact Nat.le_of_ble_eq_true rfl | exact Nat.zero_le _, by first | exact Nat.le_of_ble_eq_true rfl | exact Nat.zero_le _⟩ dX12_kindOn_59 (fun r5357 hr5357 => ?_)
      obtain rfl := hr5357
      refine lv_ishl hx hb dX12_kindOn_62 ?_
      refine lv_iconst (v := (-1)) hx hb dX12_kindOn_63 (by decide) ?_
      refine lv_ixor hx hb dX12_kindOn_64 ?_
      refine lv_iand hx hb dX12_kindOn_65 ?_
      refine lv_if_eq (tgt := 73) hx hb dX12_kindOn_66 (by decide) (fun c_66_5359 => ?_) (fun c_66_5359 => ?_)
      · refine lv_iconst (v := 0) hx hb dX12_kindOn_73 (by decide) ?_
        refine lv_istore_n (lv' := [(3, .int 0), (2, .int x5348), (0, .ref h0), (1, .int (nI jt))]) hx hb dX12_kindOn_74 rfl hl (by decide) rfl (fun ls hl => ?_)
        refine lv_aload_n hx hb dX12_kindOn_75 rfl (lv_at hl 2 rfl) ?_
        refine lv_iload_n hx hb dX12_kindOn_76 rfl (lv_at hl 1 rfl) ?_
        refine lv_iconst (v := 5) hx hb dX12_kindOn_77 (by decide) ?_
        refine pV hC hK hl hP hD (m_is l G kq h0 x5348 5 nw nk mhasKept nt mtaped nr mrowMany mroundOf mroundFrom mouts nm mfromHour mtoHour ns mfrom mto msort misFault mdeep mcoded mlines nl nc nF np ntr nb mbestCost nso nsi nit nsh nsf nss nrc mtraced mdealer mnumber mwhose msize misParted fnw (by omega) (ekq) (by omega)) si_X12_120 [0, 1] rfl rfl (by decide) rfl rfl rfl rfl rfl (Nat.le_of_ble_eq_true rfl) ⟨Nat.le_of_ble_eq_true rfl, Nat.le_of_ble_eq_true rfl⟩ ⟨by first | exact Nat.le_of_ble_eq_true rfl | exact Nat.zero_le _, by first | exact Nat.le_of_ble_eq_true rfl | exact Nat.zero_le _⟩ dX12_kindOn_78 (fun r5360 hr5360 => ?_)
        rcases hr5360 with ⟨rfl, a5361⟩ | ⟨rfl, a5361⟩
        · refine lv_if_ne (tgt := 88) hx hb dX12_kindOn_81 (by decide) (fun _ => ?_) (fun c9 => absurd c9 (by decide))
          refine lv_iload_n hx hb dX12_kindOn_88 rfl (lv_at hl 0 rfl) ?_
          refine lv_if_ne (tgt := 96) hx hb dX12_kindOn_89 (by decide) (fun c9 => absurd (by decide) c9) (fun _ => ?_)
          refine lv_iconst (v := 2) hx hb dX12_kindOn_92 (by decide) ?_
          refine lv_goto (tgt := 110) hx hb dX12_kindOn_93 (by decide) ?_
          exact RP (v := 2) hC (Or.inr (Or.inr (Or.inl (⟨rfl, KO1.mk (kk := kq) (by omega) (by omega) ex5349 ex5348 c_13_5350 a5361⟩)))) rfl dX12_kindOn_110
        · exact absurd a5352 a5361
      · refine lv_iconst (v := 1) hx hb dX12_kindOn_69 (by decide) ?_
        refine lv_goto (tgt := 74) hx hb dX12_kindOn_70 (by decide) ?_
        refine lv_istore_n (lv' := [(3, .int 1), (2, .int x5348), (0, .ref h0), (1, .int (nI jt))]) hx hb dX12_kindOn_74 rfl hl (by decide) rfl (fun ls hl => ?_)
        refine lv_aload_n hx hb dX12_kindOn_75 rfl (lv_at hl 2 rfl) ?_
        refine lv_iload_n hx hb dX12_kindOn_76 rfl (lv_at hl 1 rfl) ?_
        refine lv_iconst (v := 5) hx hb dX12_kindOn_77 (by decide) ?_
        refine pV hC hK hl hP hD (m_is l G kq h0 x5348 5 nw nk mhasKept nt mtaped nr mrowMany mroundOf mroundFrom mouts nm mfromHour mtoHour ns mfrom mto msort misFault mdeep mcoded mlines nl nc nF np ntr nb mbestCost nso nsi nit nsh nsf nss nrc mtraced mdealer mnumber mwhose msize misParted fnw (by omega) (ekq) (by omega)) si_X12_120 [0, 1] rfl rfl (by decide) rfl rfl rfl rfl rfl (Nat.le_of_ble_eq_true rfl) ⟨Nat.le_of_ble_eq_true rfl, Nat.le_of_ble_eq_true rfl⟩ ⟨by first | exact Nat.le_of_ble_eq_true rfl | exact Nat.zero_le _, by first | exact Nat.le_of_ble_eq_true rfl | exact Nat.zero_le _⟩ dX12_kindOn_78 (fun r5362 hr5362 => ?_)
        rcases hr5362 with ⟨rfl, a5363⟩ | ⟨rfl, a5363⟩
        · refine lv_if_ne (tgt := 88) hx hb dX12_kindOn_81 (by decide) (fun _ => ?_) (fun c9 => absurd c9 (by decide))
          refine lv_iload_n hx hb dX12_kindOn_88 rfl (lv_at hl 0 rfl) ?_
          refine lv_if_ne (tgt := 96) hx hb dX12_kindOn_89 (by decide) (fun _ => ?_) (fun c9 => absurd c9 (by decide))
          refine lv_aload_n hx hb dX12_kindOn_96 rfl (lv_at hl 2 rfl) ?_
          refine lv_iload_n hx hb dX12_kindOn_97 rfl (lv_at hl 1 rfl) ?_
          obtain ⟨jn5364, hjn5364, ek5364⟩ := Hs_nat (by omega) a5363
          refine eqi (x1 := nI jn5364) ek5364 ?_
          refine lv_iconst (v := 3) hx hb dX12_kindOn_98 (by decide) ?_
          refine pV hC hK hl hP hD (m_paper l G h0 jn5364 3 nw nk mhasKept nt mtaped nr mrowMany mroundOf mroundFrom mouts nm mfromHour mtoHour ns mfrom mto msort misFault mdeep mcoded mlines nl nc nF np ntr nb mbestCost nso nsi nit nsh nsf nss nrc mtraced mdealer mnumber mwhose msize misParted fnw (by omega) (by omega)) si_X12_88 [0, 1] rfl rfl (by decide) rfl rfl rfl rfl rfl (Nat.le_of_ble_eq_true rfl) ⟨Nat.le_of_ble_eq_true rfl, Nat.le_of_ble_eq_true rfl⟩ ⟨by first | exact Nat.le_of_ble_eq_true rfl | exact Nat.zero_le _, by first | exact Nat.le_of_ble_eq_true rfl | exact Nat.zero_le _⟩ dX12_kindOn_99 (fun r5365 hr5365 => ?_)
          obtain rfl := hr5365
          refine lv_if_le (tgt := 109) hx hb dX12_kindOn_102 (by decide) (fun c_102_5367 => ?_) (fun c_102_5367 => ?_)
          · refine lv_iconst (v := 1) hx hb dX12_kindOn_109 (by decide) ?_
            exact RP (v := 1) hC (Or.inr (Or.inl (⟨rfl, KO1.mk (kk := kq) (by omega) (by omega) ex5349 ex5348 c_13_5350 a5363⟩))) rfl dX12_kindOn_110
          · refine lv_iconst (v := 3) hx hb dX12_kindOn_105 (by decide) ?_
            refine lv_goto (tgt := 110) hx hb dX12_kindOn_106 (by decide) ?_
            exact RP (v := 3) hC (Or.inr (Or.inr (Or.inr (Or.inl (⟨rfl, KO1.mk (kk := kq) (by omega) (by omega) ex5349 ex5348 c_13_5350 a5363⟩))))) rfl dX12_kindOn_110
        · exact absurd a5352 a5363
    · refine lv_if_eq (tgt := 73) hx hb dX12_kindOn_46 (by decide) (fun _ => ?_) (fun c9 => absurd (by decide) c9)
      refine lv_iconst (v := 0) hx hb dX12_kindOn_73 (by decide) ?_
      refine lv_istore_n (lv' := [(3, .int 0), (2, .int x5348), (0, .ref h0), (1, .int (nI jt))]) hx hb dX12_kindOn_74 rfl hl (by decide) rfl (fun ls hl => ?_)
      refine lv_aload_n hx hb dX12_kindOn_75 rfl (lv_at hl 2 rfl) ?_
      refine lv_iload_n hx hb dX12_kindOn_76 rfl (lv_at hl 1 rfl) ?_
      refine lv_iconst (v := 5) hx hb dX12_kindOn_77 (by decide) ?_
      refine pV hC hK hl hP hD (m_is l G kq h0 x5348 5 nw nk mhasKept nt mtaped nr mrowMany mroundOf mroundFrom mouts nm mfromHour mtoHour ns mfrom mto msort misFault mdeep mcoded mlines nl nc nF np ntr nb mbestCost nso nsi nit nsh nsf nss nrc mtraced mdealer mnumber mwhose msize misParted fnw (by omega) (ekq) (by omega)) si_X12_120 [0, 1] rfl rfl (by decide) rfl rfl rfl rfl rfl (Nat.le_of_ble_eq_true rfl) ⟨Nat.le_of_ble_eq_true rfl, Nat.le_of_ble_eq_true rfl⟩ ⟨by first | exact Nat.le_of_ble_eq_true rfl | exact Nat.zero_le _, by first | exact Nat.le_of_ble_eq_true rfl | exact Nat.zero_le _⟩ dX12_kindOn_78 (fun r5368 hr5368 => ?_)
      rcases hr5368 with ⟨rfl, a5369⟩ | ⟨rfl, a5369⟩
      · exact absurd a5369 a5352
      · refine lv_if_ne (tgt := 88) hx hb dX12_kindOn_81 (by decide) (fun c9 => absurd (by decide) c9) (fun _ => ?_)
        refine lv_iconst (v := (-1)) hx hb dX12_kindOn_84 (by decide) ?_
        refine lv_goto (tgt := 110) hx hb dX12_kindOn_85 (by decide) ?_
        exact RP (v := (-1)) hC (Or.inl (rfl)) rfl dX12_kindOn_110
  by_cases c_13_5370 : x5349 = 2
  · refine lv_tableIn (tgt := 111) hx hb dX12_kindOn_13 (by rw [c_13_5370]; decide) (by rw [c_13_5370]; decide) (by rw [c_13_5370]; rfl) (by decide) ?_
    refine lv_aload_n hx hb dX12_kindOn_111 rfl (lv_at hl 1 rfl) ?_
    refine lv_iload_n hx hb dX12_kindOn_112 rfl (lv_at hl 0 rfl) ?_
    refine lv_bipush (v := 8) hx hb dX12_kindOn_113 (by decide) ?_
    refine pV hC hK hl hP hD (m_is l G k8 h0 x5348 8 nw nk mhasKept nt mtaped nr mrowMany mroundOf mroundFrom mouts nm mfromHour mtoHour ns mfrom mto msort misFault mdeep mcoded mlines nl nc nF np ntr nb mbestCost nso nsi nit nsh nsf nss nrc mtraced mdealer mnumber mwhose msize misParted fnw (by omega) (ek8) (by omega)) si_X12_120 [0, 1] rfl rfl (by decide) rfl rfl rfl rfl rfl (Nat.le_of_ble_eq_true rfl) ⟨Nat.le_of_ble_eq_true rfl, Nat.le_of_ble_eq_true rfl⟩ ⟨by first | exact Nat.le_of_ble_eq_true rfl | exact Nat.zero_le _, by first | exact Nat.le_of_ble_eq_true rfl | exact Nat.zero_le _⟩ dX12_kindOn_115 (fun r5371 hr5371 => ?_)
    rcases hr5371 with ⟨rfl, a5372⟩ | ⟨rfl, a5372⟩
    · refine lv_if_ne (tgt := 125) hx hb dX12_kindOn_118 (by decide) (fun _ => ?_) (fun c9 => absurd c9 (by decide))
      refine lv_aload_n hx hb dX12_kindOn_125 rfl (lv_at hl 1 rfl) ?_
      refine lv_iload_n hx hb dX12_kindOn_126 rfl (lv_at hl 0 rfl) ?_
      obtain ⟨jn5373, hjn5373, ek5373⟩ := Hs_nat (by omega) a5372
      refine eqi (x1 := nI jn5373) ek5373 ?_
      refine lv_bipush (v := 6) hx hb dX12_kindOn_127 (by decide) ?_
      refine pV hC hK hl hP hD (m_saying l G h0 jn5373 6 nw nk mhasKept nt mtaped nr mrowMany mroundOf mroundFrom mouts nm mfromHour mtoHour ns mfrom mto msort misFault mdeep mcoded mlines nl nc nF np ntr nb mbestCost nso nsi nit nsh nsf nss nrc mtraced mdealer mnumber mwhose msize misParted fnw (by omega) (by omega)) si_X12_114 [0, 1] rfl rfl (by decide) rfl rfl rfl rfl rfl (Nat.le_of_ble_eq_true rfl) ⟨Nat.le_of_ble_eq_true rfl, Nat.le_of_ble_eq_true rfl⟩ ⟨by first | exact Nat.le_of_ble_eq_true rfl | exact Nat.zero_le _, by first | exact Nat.le_of_ble_eq_true rfl | exact Nat.zero_le _⟩ dX12_kindOn_129 (fun r5374 hr5374 => ?_)
      obtain rfl := hr5374
      refine lv_if_ge (tgt := 139) hx hb dX12_kindOn_132 (by decide) (fun c_132_5376 => ?_) (fun c_132_5376 => ?_)
      · refine lv_iconst (v := 4) hx hb dX12_kindOn_139 (by decide) ?_
        exact RP (v := 4) hC (Or.inr (Or.inr (Or.inr (Or.inr (Or.inl (⟨rfl, KO1.mk (kk := k8) (by omega) (by omega) ex5349 ex5348 c_13_5370 a5372⟩)))))) rfl dX12_kindOn_140
      · refine lv_iconst (v := 5) hx hb dX12_kindOn_135 (by decide) ?_
        refine lv_goto (tgt := 140) hx hb dX12_kindOn_136 (by decide) ?_
        exact RP (v := 5) hC (Or.inr (Or.inr (Or.inr (Or.inr (Or.inr (Or.inl (⟨rfl, KO1.mk (kk := k8) (by omega) (by omega) ex5349 ex5348 c_13_5370 a5372⟩))))))) rfl dX12_kindOn_140
    · refine lv_if_ne (tgt := 125) hx hb dX12_kindOn_118 (by decide) (fun c9 => absurd (by decide) c9) (fun _ => ?_)
      refine lv_iconst (v := (-1)) hx hb dX12_kindOn_121 (by decide) ?_
      refine lv_goto (tgt := 140) hx hb dX12_kindOn_122 (by decide) ?_
      exact RP (v := (-1)) hC (Or.inl (rfl)) rfl dX12_kindOn_140
  by_cases c_13_5377 : x5349 = 3
  · refine lv_tableIn (tgt := 141) hx hb dX12_kindOn_13 (by rw [c_13_5377]; decide) (by rw [c_13_5377]; decide) (by rw [c_13_5377]; rfl) (by decide) ?_
    refine lv_aload_n hx hb dX12_kindOn_141 rfl (lv_at hl 1 rfl) ?_
    refine lv_iload_n hx hb dX12_kindOn_142 rfl (lv_at hl 0 rfl) ?_
    refine lv_bipush (v := 9) hx hb dX12_kindOn_143 (by decide) ?_
    refine pV hC hK hl hP hD (m_is l G k9 h0 x5348 9 nw nk mhasKept nt mtaped nr mrowMany mroundOf mroundFrom mouts nm mfromHour mtoHour ns mfrom mto msort misFault mdeep mcoded mlines nl nc nF np ntr nb mbestCost nso nsi nit nsh nsf nss nrc mtraced mdealer mnumber mwhose msize misParted fnw (by omega) (ek9) (by omega)) si_X12_120 [0, 1] rfl rfl (by decide) rfl rfl rfl rfl rfl (Nat.le_of_ble_eq_true rfl) ⟨Nat.le_of_ble_eq_true rfl, Nat.le_of_ble_eq_true rfl⟩ ⟨by first | exact Nat.le_of_ble_eq_true rfl | exact Nat.zero_le _, by first | exact Nat.le_of_ble_eq_true rfl | exact Nat.zero_le _⟩ dX12_kindOn_145 (fun r5378 hr5378 => ?_)
    rcases hr5378 with ⟨rfl, a5379⟩ | ⟨rfl, a5379⟩
    · refine lv_if_eq (tgt := 156) hx hb dX12_kindOn_148 (by decide) (fun c9 => absurd c9 (by decide)) (fun _ => ?_)
      refine lv_bipush (v := 6) hx hb dX12_kindOn_151 (by decide) ?_
      refine lv_goto (tgt := 157) hx hb dX12_kindOn_153 (by decide) ?_
      exact RP (v := 6) hC (Or.inr (Or.inr (Or.inr (Or.inr (Or.inr (Or.inr (⟨rfl, KO1.mk (kk := k9) (by omega) (by omega) ex5349 ex5348 c_13_5377 a5379⟩))))))) rfl dX12_kindOn_157
    · refine lv_if_eq (tgt := 156) hx hb dX12_kindOn_148 (by decide) (fun _ => ?_) (fun c9 => absurd (by decide) c9)
      refine lv_iconst (v := (-1)) hx hb dX12_kindOn_156 (by decide) ?_
      exact RP (v := (-1)) hC (Or.inl (rfl)) rfl dX12_kindOn_157
  refine lv_tableOut (tgt := 158) hx hb dX12_kindOn_13 (by have q9 := sw_1_3 (x := x5349); simp only [c_13_5350, c_13_5370, c_13_5377, not_false_eq_true, true_implies] at q9; exact q9) (by decide) ?_
  refine lv_iconst (v := (-1)) hx hb dX12_kindOn_158 (by decide) ?_
  exact RP (v := (-1)) hC (Or.inl (rfl)) rfl dX12_kindOn_159
set_option maxHeartbeats 4000000 in
set_option maxRecDepth 100000 in
theorem m_above0 (l : Launch) (G : GG) : MP l G yX12_above cX12_above 1 (some .int) 1 [.int 0] [] (fun r : Int32 => r = (-1)) := by
  refine MP.start (by decide +kernel) (Nat.le_of_ble_eq_true rfl) ?_
  intro p e s m below meth c ls hC hK hP hD hl
  have hl : lv_has ls 1 [(0, .int 0)] := hl
  obtain ⟨hx, hb, hr, hml, hB, hown, hlocks, hnm⟩ := id hC
  refine lv_iload_n hx hb dX12_above_0 rfl (lv_at hl 0 rfl) ?_
  refine lv_iconst (v := 3) hx hb dX12_above_1 (by decide) ?_
  refine lv_icmp_ne (tgt := 9) hx hb dX12_above_2 (by decide) (fun _ => ?_) (fun c9 => absurd c9 (by decide))
  refine lv_iload_n hx hb dX12_above_9 rfl (lv_at hl 0 rfl) ?_
  refine lv_iconst (v := 5) hx hb dX12_above_10 (by decide) ?_
  refine lv_icmp_ne (tgt := 18) hx hb dX12_above_11 (by decide) (fun _ => ?_) (fun c9 => absurd c9 (by decide))
  refine lv_iload_n hx hb dX12_above_18 rfl (lv_at hl 0 rfl) ?_
  refine lv_if_ne (tgt := 26) hx hb dX12_above_19 (by decide) (fun c9 => absurd (by decide) c9) (fun _ => ?_)
  refine lv_iconst (v := (-1)) hx hb dX12_above_22 (by decide) ?_
  refine lv_goto (tgt := 27) hx hb dX12_above_23 (by decide) ?_
  exact RP (v := (-1)) hC (rfl) rfl dX12_above_27
set_option maxHeartbeats 4000000 in
set_option maxRecDepth 100000 in
theorem m_above1 (l : Launch) (G : GG) : MP l G yX12_above cX12_above 1 (some .int) 1 [.int 1] [] (fun r : Int32 => r = 0) := by
  refine MP.start (by decide +kernel) (Nat.le_of_ble_eq_true rfl) ?_
  intro p e s m below meth c ls hC hK hP hD hl
  have hl : lv_has ls 1 [(0, .int 1)] := hl
  obtain ⟨hx, hb, hr, hml, hB, hown, hlocks, hnm⟩ := id hC
  refine lv_iload_n hx hb dX12_above_0 rfl (lv_at hl 0 rfl) ?_
  refine lv_iconst (v := 3) hx hb dX12_above_1 (by decide) ?_
  refine lv_icmp_ne (tgt := 9) hx hb dX12_above_2 (by decide) (fun _ => ?_) (fun c9 => absurd c9 (by decide))
  refine lv_iload_n hx hb dX12_above_9 rfl (lv_at hl 0 rfl) ?_
  refine lv_iconst (v := 5) hx hb dX12_above_10 (by decide) ?_
  refine lv_icmp_ne (tgt := 18) hx hb dX12_above_11 (by decide) (fun _ => ?_) (fun c9 => absurd c9 (by decide))
  refine lv_iload_n hx hb dX12_above_18 rfl (lv_at hl 0 rfl) ?_
  refine lv_if_ne (tgt := 26) hx hb dX12_above_19 (by decide) (fun _ => ?_) (fun c9 => absurd c9 (by decide))
  refine lv_iconst (v := 0) hx hb dX12_above_26 (by decide) ?_
  exact RP (v := 0) hC (rfl) rfl dX12_above_27
set_option maxHeartbeats 4000000 in
set_option maxRecDepth 100000 in
theorem m_above2 (l : Launch) (G : GG) : MP l G yX12_above cX12_above 1 (some .int) 1 [.int 2] [] (fun r : Int32 => r = 0) := by
  refine MP.start (by decide +kernel) (Nat.le_of_ble_eq_true rfl) ?_
  intro p e s m below meth c ls hC hK hP hD hl
  have hl : lv_has ls 1 [(0, .int 2)] := hl
  obtain ⟨hx, hb, hr, hml, hB, hown, hlocks, hnm⟩ := id hC
  refine lv_iload_n hx hb dX12_above_0 rfl (lv_at hl 0 rfl) ?_
  refine lv_iconst (v := 3) hx hb dX12_above_1 (by decide) ?_
  refine lv_icmp_ne (tgt := 9) hx hb dX12_above_2 (by decide) (fun _ => ?_) (fun c9 => absurd c9 (by decide))
  refine lv_iload_n hx hb dX12_above_9 rfl (lv_at hl 0 rfl) ?_
  refine lv_iconst (v := 5) hx hb dX12_above_10 (by decide) ?_
  refine lv_icmp_ne (tgt := 18) hx hb dX12_above_11 (by decide) (fun _ => ?_) (fun c9 => absurd c9 (by decide))
  refine lv_iload_n hx hb dX12_above_18 rfl (lv_at hl 0 rfl) ?_
  refine lv_if_ne (tgt := 26) hx hb dX12_above_19 (by decide) (fun _ => ?_) (fun c9 => absurd c9 (by decide))
  refine lv_iconst (v := 0) hx hb dX12_above_26 (by decide) ?_
  exact RP (v := 0) hC (rfl) rfl dX12_above_27
set_option maxHeartbeats 4000000 in
set_option maxRecDepth 100000 in
theorem m_above3 (l : Launch) (G : GG) : MP l G yX12_above cX12_above 1 (some .int) 1 [.int 3] [] (fun r : Int32 => r = 1) := by
  refine MP.start (by decide +kernel) (Nat.le_of_ble_eq_true rfl) ?_
  intro p e s m below meth c ls hC hK hP hD hl
  have hl : lv_has ls 1 [(0, .int 3)] := hl
  obtain ⟨hx, hb, hr, hml, hB, hown, hlocks, hnm⟩ := id hC
  refine lv_iload_n hx hb dX12_above_0 rfl (lv_at hl 0 rfl) ?_
  refine lv_iconst (v := 3) hx hb dX12_above_1 (by decide) ?_
  refine lv_icmp_ne (tgt := 9) hx hb dX12_above_2 (by decide) (fun c9 => absurd (by decide) c9) (fun _ => ?_)
  refine lv_iconst (v := 1) hx hb dX12_above_5 (by decide) ?_
  refine lv_goto (tgt := 27) hx hb dX12_above_6 (by decide) ?_
  exact RP (v := 1) hC (rfl) rfl dX12_above_27
set_option maxHeartbeats 4000000 in
set_option maxRecDepth 100000 in
theorem m_above4 (l : Launch) (G : GG) : MP l G yX12_above cX12_above 1 (some .int) 1 [.int 4] [] (fun r : Int32 => r = 0) := by
  refine MP.start (by decide +kernel) (Nat.le_of_ble_eq_true rfl) ?_
  intro p e s m below meth c ls hC hK hP hD hl
  have hl : lv_has ls 1 [(0, .int 4)] := hl
  obtain ⟨hx, hb, hr, hml, hB, hown, hlocks, hnm⟩ := id hC
  refine lv_iload_n hx hb dX12_above_0 rfl (lv_at hl 0 rfl) ?_
  refine lv_iconst (v := 3) hx hb dX12_above_1 (by decide) ?_
  refine lv_icmp_ne (tgt := 9) hx hb dX12_above_2 (by decide) (fun _ => ?_) (fun c9 => absurd c9 (by decide))
  refine lv_iload_n hx hb dX12_above_9 rfl (lv_at hl 0 rfl) ?_
  refine lv_iconst (v := 5) hx hb dX12_above_10 (by decide) ?_
  refine lv_icmp_ne (tgt := 18) hx hb dX12_above_11 (by decide) (fun _ => ?_) (fun c9 => absurd c9 (by decide))
  refine lv_iload_n hx hb dX12_above_18 rfl (lv_at hl 0 rfl) ?_
  refine lv_if_ne (tgt := 26) hx hb dX12_above_19 (by decide) (fun _ => ?_) (fun c9 => absurd c9 (by decide))
  refine lv_iconst (v := 0) hx hb dX12_above_26 (by decide) ?_
  exact RP (v := 0) hC (rfl) rfl dX12_above_27
set_option maxHeartbeats 4000000 in
set_option maxRecDepth 100000 in
theorem m_above5 (l : Launch) (G : GG) : MP l G yX12_above cX12_above 1 (some .int) 1 [.int 5] [] (fun r : Int32 => r = 4) := by
  refine MP.start (by decide +kernel) (Nat.le_of_ble_eq_true rfl) ?_
  intro p e s m below meth c ls hC hK hP hD hl
  have hl : lv_has ls 1 [(0, .int 5)] := hl
  obtain ⟨hx, hb, hr, hml, hB, hown, hlocks, hnm⟩ := id hC
  refine lv_iload_n hx hb dX12_above_0 rfl (lv_at hl 0 rfl) ?_
  refine lv_iconst (v := 3) hx hb dX12_above_1 (by decide) ?_
  refine lv_icmp_ne (tgt := 9) hx hb dX12_above_2 (by decide) (fun _ => ?_) (fun c9 => absurd c9 (by decide))
  refine lv_iload_n hx hb dX12_above_9 rfl (lv_at hl 0 rfl) ?_
  refine lv_iconst (v := 5) hx hb dX12_above_10 (by decide) ?_
  refine lv_icmp_ne (tgt := 18) hx hb dX12_above_11 (by decide) (fun c9 => absurd (by decide) c9) (fun _ => ?_)
  refine lv_iconst (v := 4) hx hb dX12_above_14 (by decide) ?_
  refine lv_goto (tgt := 27) hx hb dX12_above_15 (by decide) ?_
  exact RP (v := 4) hC (rfl) rfl dX12_above_27
set_option maxHeartbeats 4000000 in
set_option maxRecDepth 100000 in
theorem m_above6 (l : Launch) (G : GG) : MP l G yX12_above cX12_above 1 (some .int) 1 [.int 6] [] (fun r : Int32 => r = 0) := by
  refine MP.start (by decide +kernel) (Nat.le_of_ble_eq_true rfl) ?_
  intro p e s m below meth c ls hC hK hP hD hl
  have hl : lv_has ls 1 [(0, .int 6)] := hl
  obtain ⟨hx, hb, hr, hml, hB, hown, hlocks, hnm⟩ := id hC
  refine lv_iload_n hx hb dX12_above_0 rfl (lv_at hl 0 rfl) ?_
  refine lv_iconst (v := 3) hx hb dX12_above_1 (by decide) ?_
  refine lv_icmp_ne (tgt := 9) hx hb dX12_above_2 (by decide) (fun _ => ?_) (fun c9 => absurd c9 (by decide))
  refine lv_iload_n hx hb dX12_above_9 rfl (lv_at hl 0 rfl) ?_
  refine lv_iconst (v := 5) hx hb dX12_above_10 (by decide) ?_
  refine lv_icmp_ne (tgt := 18) hx hb dX12_above_11 (by decide) (fun _ => ?_) (fun c9 => absurd c9 (by decide))
  refine lv_iload_n hx hb dX12_above_18 rfl (lv_at hl 0 rfl) ?_
  refine lv_if_ne (tgt := 26) hx hb dX12_above_19 (by decide) (fun _ => ?_) (fun c9 => absurd c9 (by decide))
  refine lv_iconst (v := 0) hx hb dX12_above_26 (by decide) ?_
  exact RP (v := 0) hC (rfl) rfl dX12_above_27
set_option maxHeartbeats 4000000 in
set_option maxRecDepth 100000 in
theorem m_hasOwn00 (l : Launch) (G : GG) : MP l G yX12_hasOwn cX12_hasOwn 2 (some .boolean) 1 [.int 0, .int 0] [] (fun r : Int32 => r = 1) := by
  refine MP.start (by decide +kernel) (Nat.le_of_ble_eq_true rfl) ?_
  intro p e s m below meth c ls hC hK hP hD hl
  have hl : lv_has ls 2 [(0, .int 0), (1, .int 0)] := hl
  obtain ⟨hx, hb, hr, hml, hB, hown, hlocks, hnm⟩ := id hC
  refine lv_iload_n hx hb dX12_hasOwn_0 rfl (lv_at hl 0 rfl) ?_
  refine lv_tableIn (tgt := 40) hx hb dX12_hasOwn_1 (by decide) (by decide) rfl (by decide) ?_
  refine lv_iconst (v := 1) hx hb dX12_hasOwn_40 (by decide) ?_
  exact RP (v := 1) hC (rfl) (by decide +kernel) dX12_hasOwn_41
set_option maxHeartbeats 4000000 in
set_option maxRecDepth 100000 in
theorem m_hasOwn01 (l : Launch) (G : GG) : MP l G yX12_hasOwn cX12_hasOwn 2 (some .boolean) 1 [.int 0, .int 1] [] (fun r : Int32 => r = 1) := by
  refine MP.start (by decide +kernel) (Nat.le_of_ble_eq_true rfl) ?_
  intro p e s m below meth c ls hC hK hP hD hl
  have hl : lv_has ls 2 [(0, .int 0), (1, .int 1)] := hl
  obtain ⟨hx, hb, hr, hml, hB, hown, hlocks, hnm⟩ := id hC
  refine lv_iload_n hx hb dX12_hasOwn_0 rfl (lv_at hl 0 rfl) ?_
  refine lv_tableIn (tgt := 40) hx hb dX12_hasOwn_1 (by decide) (by decide) rfl (by decide) ?_
  refine lv_iconst (v := 1) hx hb dX12_hasOwn_40 (by decide) ?_
  exact RP (v := 1) hC (rfl) (by decide +kernel) dX12_hasOwn_41
set_option maxHeartbeats 4000000 in
set_option maxRecDepth 100000 in
theorem m_hasOwn02 (l : Launch) (G : GG) : MP l G yX12_hasOwn cX12_hasOwn 2 (some .boolean) 1 [.int 0, .int 2] [] (fun r : Int32 => r = 1) := by
  refine MP.start (by decide +kernel) (Nat.le_of_ble_eq_true rfl) ?_
  intro p e s m below meth c ls hC hK hP hD hl
  have hl : lv_has ls 2 [(0, .int 0), (1, .int 2)] := hl
  obtain ⟨hx, hb, hr, hml, hB, hown, hlocks, hnm⟩ := id hC
  refine lv_iload_n hx hb dX12_hasOwn_0 rfl (lv_at hl 0 rfl) ?_
  refine lv_tableIn (tgt := 40) hx hb dX12_hasOwn_1 (by decide) (by decide) rfl (by decide) ?_
  refine lv_iconst (v := 1) hx hb dX12_hasOwn_40 (by decide) ?_
  exact RP (v := 1) hC (rfl) (by decide +kernel) dX12_hasOwn_41
set_option maxHeartbeats 4000000 in
set_option maxRecDepth 100000 in
theorem m_hasOwn03 (l : Launch) (G : GG) : MP l G yX12_hasOwn cX12_hasOwn 2 (some .boolean) 1 [.int 0, .int 3] [] (fun r : Int32 => r = 1) := by
  refine MP.start (by decide +kernel) (Nat.le_of_ble_eq_true rfl) ?_
  intro p e s m below meth c ls hC hK hP hD hl
  have hl : lv_has ls 2 [(0, .int 0), (1, .int 3)] := hl
  obtain ⟨hx, hb, hr, hml, hB, hown, hlocks, hnm⟩ := id hC
  refine lv_iload_n hx hb dX12_hasOwn_0 rfl (lv_at hl 0 rfl) ?_
  refine lv_tableIn (tgt := 40) hx hb dX12_hasOwn_1 (by decide) (by decide) rfl (by decide) ?_
  refine lv_iconst (v := 1) hx hb dX12_hasOwn_40 (by decide) ?_
  exact RP (v := 1) hC (rfl) (by decide +kernel) dX12_hasOwn_41
set_option maxHeartbeats 4000000 in
set_option maxRecDepth 100000 in
theorem m_hasOwn10 (l : Launch) (G : GG) : MP l G yX12_hasOwn cX12_hasOwn 2 (some .boolean) 1 [.int 1, .int 0] [] (fun r : Int32 => r = 0) := by
  refine MP.start (by decide +kernel) (Nat.le_of_ble_eq_true rfl) ?_
  intro p e s m below meth c ls hC hK hP hD hl
  have hl : lv_has ls 2 [(0, .int 1), (1, .int 0)] := hl
  obtain ⟨hx, hb, hr, hml, hB, hown, hlocks, hnm⟩ := id hC
  refine lv_iload_n hx hb dX12_hasOwn_0 rfl (lv_at hl 0 rfl) ?_
  refine lv_tableIn (tgt := 42) hx hb dX12_hasOwn_1 (by decide) (by decide) rfl (by decide) ?_
  refine lv_iload_n hx hb dX12_hasOwn_42 rfl (lv_at hl 1 rfl) ?_
  refine lv_iconst (v := 1) hx hb dX12_hasOwn_43 (by decide) ?_
  refine lv_icmp_ne (tgt := 51) hx hb dX12_hasOwn_44 (by decide) (fun _ => ?_) (fun c9 => absurd c9 (by decide))
  refine lv_iconst (v := 0) hx hb dX12_hasOwn_51 (by decide) ?_
  exact RP (v := 0) hC (rfl) (by decide +kernel) dX12_hasOwn_52
set_option maxHeartbeats 4000000 in
set_option maxRecDepth 100000 in
theorem m_hasOwn11 (l : Launch) (G : GG) : MP l G yX12_hasOwn cX12_hasOwn 2 (some .boolean) 1 [.int 1, .int 1] [] (fun r : Int32 => r = 1) := by
  refine MP.start (by decide +kernel) (Nat.le_of_ble_eq_true rfl) ?_
  intro p e s m below meth c ls hC hK hP hD hl
  have hl : lv_has ls 2 [(0, .int 1), (1, .int 1)] := hl
  obtain ⟨hx, hb, hr, hml, hB, hown, hlocks, hnm⟩ := id hC
  refine lv_iload_n hx hb dX12_hasOwn_0 rfl (lv_at hl 0 rfl) ?_
  refine lv_tableIn (tgt := 42) hx hb dX12_hasOwn_1 (by decide) (by decide) rfl (by decide) ?_
  refine lv_iload_n hx hb dX12_hasOwn_42 rfl (lv_at hl 1 rfl) ?_
  refine lv_iconst (v := 1) hx hb dX12_hasOwn_43 (by decide) ?_
  refine lv_icmp_ne (tgt := 51) hx hb dX12_hasOwn_44 (by decide) (fun c9 => absurd (by decide) c9) (fun _ => ?_)
  refine lv_iconst (v := 1) hx hb dX12_hasOwn_47 (by decide) ?_
  refine lv_goto (tgt := 52) hx hb dX12_hasOwn_48 (by decide) ?_
  exact RP (v := 1) hC (rfl) (by decide +kernel) dX12_hasOwn_52
set_option maxHeartbeats 4000000 in
set_option maxRecDepth 100000 in
theorem m_hasOwn12 (l : Launch) (G : GG) : MP l G yX12_hasOwn cX12_hasOwn 2 (some .boolean) 1 [.int 1, .int 2] [] (fun r : Int32 => r = 0) := by
  refine MP.start (by decide +kernel) (Nat.le_of_ble_eq_true rfl) ?_
  intro p e s m below meth c ls hC hK hP hD hl
  have hl : lv_has ls 2 [(0, .int 1), (1, .int 2)] := hl
  obtain ⟨hx, hb, hr, hml, hB, hown, hlocks, hnm⟩ := id hC
  refine lv_iload_n hx hb dX12_hasOwn_0 rfl (lv_at hl 0 rfl) ?_
  refine lv_tableIn (tgt := 42) hx hb dX12_hasOwn_1 (by decide) (by decide) rfl (by decide) ?_
  refine lv_iload_n hx hb dX12_hasOwn_42 rfl (lv_at hl 1 rfl) ?_
  refine lv_iconst (v := 1) hx hb dX12_hasOwn_43 (by decide) ?_
  refine lv_icmp_ne (tgt := 51) hx hb dX12_hasOwn_44 (by decide) (fun _ => ?_) (fun c9 => absurd c9 (by decide))
  refine lv_iconst (v := 0) hx hb dX12_hasOwn_51 (by decide) ?_
  exact RP (v := 0) hC (rfl) (by decide +kernel) dX12_hasOwn_52
set_option maxHeartbeats 4000000 in
set_option maxRecDepth 100000 in
theorem m_hasOwn13 (l : Launch) (G : GG) : MP l G yX12_hasOwn cX12_hasOwn 2 (some .boolean) 1 [.int 1, .int 3] [] (fun r : Int32 => r = 0) := by
  refine MP.start (by decide +kernel) (Nat.le_of_ble_eq_true rfl) ?_
  intro p e s m below meth c ls hC hK hP hD hl
  have hl : lv_has ls 2 [(0, .int 1), (1, .int 3)] := hl
  obtain ⟨hx, hb, hr, hml, hB, hown, hlocks, hnm⟩ := id hC
  refine lv_iload_n hx hb dX12_hasOwn_0 rfl (lv_at hl 0 rfl) ?_
  refine lv_tableIn (tgt := 42) hx hb dX12_hasOwn_1 (by decide) (by decide) rfl (by decide) ?_
  refine lv_iload_n hx hb dX12_hasOwn_42 rfl (lv_at hl 1 rfl) ?_
  refine lv_iconst (v := 1) hx hb dX12_hasOwn_43 (by decide) ?_
  refine lv_icmp_ne (tgt := 51) hx hb dX12_hasOwn_44 (by decide) (fun _ => ?_) (fun c9 => absurd c9 (by decide))
  refine lv_iconst (v := 0) hx hb dX12_hasOwn_51 (by decide) ?_
  exact RP (v := 0) hC (rfl) (by decide +kernel) dX12_hasOwn_52
set_option maxHeartbeats 4000000 in
set_option maxRecDepth 100000 in
theorem m_hasOwn20 (l : Launch) (G : GG) : MP l G yX12_hasOwn cX12_hasOwn 2 (some .boolean) 1 [.int 2, .int 0] [] (fun r : Int32 => r = 0) := by
  refine MP.start (by decide +kernel) (Nat.le_of_ble_eq_true rfl) ?_
  intro p e s m below meth c ls hC hK hP hD hl
  have hl : lv_has ls 2 [(0, .int 2), (1, .int 0)] := hl
  obtain ⟨hx, hb, hr, hml, hB, hown, hlocks, hnm⟩ := id hC
  refine lv_iload_n hx hb dX12_hasOwn_0 rfl (lv_at hl 0 rfl) ?_
  refine lv_tableIn (tgt := 53) hx hb dX12_hasOwn_1 (by decide) (by decide) rfl (by decide) ?_
  refine lv_iload_n hx hb dX12_hasOwn_53 rfl (lv_at hl 1 rfl) ?_
  refine lv_iconst (v := 2) hx hb dX12_hasOwn_54 (by decide) ?_
  refine lv_icmp_ne (tgt := 62) hx hb dX12_hasOwn_55 (by decide) (fun _ => ?_) (fun c9 => absurd c9 (by decide))
  refine lv_iconst (v := 0) hx hb dX12_hasOwn_62 (by decide) ?_
  exact RP (v := 0) hC (rfl) (by decide +kernel) dX12_hasOwn_63
set_option maxHeartbeats 4000000 in
set_option maxRecDepth 100000 in
theorem m_hasOwn21 (l : Launch) (G : GG) : MP l G yX12_hasOwn cX12_hasOwn 2 (some .boolean) 1 [.int 2, .int 1] [] (fun r : Int32 => r = 0) := by
  refine MP.start (by decide +kernel) (Nat.le_of_ble_eq_true rfl) ?_
  intro p e s m below meth c ls hC hK hP hD hl
  have hl : lv_has ls 2 [(0, .int 2), (1, .int 1)] := hl
  obtain ⟨hx, hb, hr, hml, hB, hown, hlocks, hnm⟩ := id hC
  refine lv_iload_n hx hb dX12_hasOwn_0 rfl (lv_at hl 0 rfl) ?_
  refine lv_tableIn (tgt := 53) hx hb dX12_hasOwn_1 (by decide) (by decide) rfl (by decide) ?_
  refine lv_iload_n hx hb dX12_hasOwn_53 rfl (lv_at hl 1 rfl) ?_
  refine lv_iconst (v := 2) hx hb dX12_hasOwn_54 (by decide) ?_
  refine lv_icmp_ne (tgt := 62) hx hb dX12_hasOwn_55 (by decide) (fun _ => ?_) (fun c9 => absurd c9 (by decide))
  refine lv_iconst (v := 0) hx hb dX12_hasOwn_62 (by decide) ?_
  exact RP (v := 0) hC (rfl) (by decide +kernel) dX12_hasOwn_63
set_option maxHeartbeats 4000000 in
set_option maxRecDepth 100000 in
theorem m_hasOwn22 (l : Launch) (G : GG) : MP l G yX12_hasOwn cX12_hasOwn 2 (some .boolean) 1 [.int 2, .int 2] [] (fun r : Int32 => r = 1) := by
  refine MP.start (by decide +kernel) (Nat.le_of_ble_eq_true rfl) ?_
  intro p e s m below meth c ls hC hK hP hD hl
  have hl : lv_has ls 2 [(0, .int 2), (1, .int 2)] := hl
  obtain ⟨hx, hb, hr, hml, hB, hown, hlocks, hnm⟩ := id hC
  refine lv_iload_n hx hb dX12_hasOwn_0 rfl (lv_at hl 0 rfl) ?_
  refine lv_tableIn (tgt := 53) hx hb dX12_hasOwn_1 (by decide) (by decide) rfl (by decide) ?_
  refine lv_iload_n hx hb dX12_hasOwn_53 rfl (lv_at hl 1 rfl) ?_
  refine lv_iconst (v := 2) hx hb dX12_hasOwn_54 (by decide) ?_
  refine lv_icmp_ne (tgt := 62) hx hb dX12_hasOwn_55 (by decide) (fun c9 => absurd (by decide) c9) (fun _ => ?_)
  refine lv_iconst (v := 1) hx hb dX12_hasOwn_58 (by decide) ?_
  refine lv_goto (tgt := 63) hx hb dX12_hasOwn_59 (by decide) ?_
  exact RP (v := 1) hC (rfl) (by decide +kernel) dX12_hasOwn_63
set_option maxHeartbeats 4000000 in
set_option maxRecDepth 100000 in
theorem m_hasOwn23 (l : Launch) (G : GG) : MP l G yX12_hasOwn cX12_hasOwn 2 (some .boolean) 1 [.int 2, .int 3] [] (fun r : Int32 => r = 0) := by
  refine MP.start (by decide +kernel) (Nat.le_of_ble_eq_true rfl) ?_
  intro p e s m below meth c ls hC hK hP hD hl
  have hl : lv_has ls 2 [(0, .int 2), (1, .int 3)] := hl
  obtain ⟨hx, hb, hr, hml, hB, hown, hlocks, hnm⟩ := id hC
  refine lv_iload_n hx hb dX12_hasOwn_0 rfl (lv_at hl 0 rfl) ?_
  refine lv_tableIn (tgt := 53) hx hb dX12_hasOwn_1 (by decide) (by decide) rfl (by decide) ?_
  refine lv_iload_n hx hb dX12_hasOwn_53 rfl (lv_at hl 1 rfl) ?_
  refine lv_iconst (v := 2) hx hb dX12_hasOwn_54 (by decide) ?_
  refine lv_icmp_ne (tgt := 62) hx hb dX12_hasOwn_55 (by decide) (fun _ => ?_) (fun c9 => absurd c9 (by decide))
  refine lv_iconst (v := 0) hx hb dX12_hasOwn_62 (by decide) ?_
  exact RP (v := 0) hC (rfl) (by decide +kernel) dX12_hasOwn_63
set_option maxHeartbeats 4000000 in
set_option maxRecDepth 100000 in
theorem m_hasOwn30 (l : Launch) (G : GG) : MP l G yX12_hasOwn cX12_hasOwn 2 (some .boolean) 1 [.int 3, .int 0] [] (fun r : Int32 => r = 0) := by
  refine MP.start (by decide +kernel) (Nat.le_of_ble_eq_true rfl) ?_
  intro p e s m below meth c ls hC hK hP hD hl
  have hl : lv_has ls 2 [(0, .int 3), (1, .int 0)] := hl
  obtain ⟨hx, hb, hr, hml, hB, hown, hlocks, hnm⟩ := id hC
  refine lv_iload_n hx hb dX12_hasOwn_0 rfl (lv_at hl 0 rfl) ?_
  refine lv_tableIn (tgt := 64) hx hb dX12_hasOwn_1 (by decide) (by decide) rfl (by decide) ?_
  refine lv_iload_n hx hb dX12_hasOwn_64 rfl (lv_at hl 1 rfl) ?_
  refine lv_iconst (v := 1) hx hb dX12_hasOwn_65 (by decide) ?_
  refine lv_icmp_eq (tgt := 74) hx hb dX12_hasOwn_66 (by decide) (fun c9 => absurd c9 (by decide)) (fun _ => ?_)
  refine lv_iload_n hx hb dX12_hasOwn_69 rfl (lv_at hl 1 rfl) ?_
  refine lv_iconst (v := 3) hx hb dX12_hasOwn_70 (by decide) ?_
  refine lv_icmp_ne (tgt := 78) hx hb dX12_hasOwn_71 (by decide) (fun _ => ?_) (fun c9 => absurd c9 (by decide))
  refine lv_iconst (v := 0) hx hb dX12_hasOwn_78 (by decide) ?_
  exact RP (v := 0) hC (rfl) (by decide +kernel) dX12_hasOwn_79
set_option maxHeartbeats 4000000 in
set_option maxRecDepth 100000 in
theorem m_hasOwn31 (l : Launch) (G : GG) : MP l G yX12_hasOwn cX12_hasOwn 2 (some .boolean) 1 [.int 3, .int 1] [] (fun r : Int32 => r = 1) := by
  refine MP.start (by decide +kernel) (Nat.le_of_ble_eq_true rfl) ?_
  intro p e s m below meth c ls hC hK hP hD hl
  have hl : lv_has ls 2 [(0, .int 3), (1, .int 1)] := hl
  obtain ⟨hx, hb, hr, hml, hB, hown, hlocks, hnm⟩ := id hC
  refine lv_iload_n hx hb dX12_hasOwn_0 rfl (lv_at hl 0 rfl) ?_
  refine lv_tableIn (tgt := 64) hx hb dX12_hasOwn_1 (by decide) (by decide) rfl (by decide) ?_
  refine lv_iload_n hx hb dX12_hasOwn_64 rfl (lv_at hl 1 rfl) ?_
  refine lv_iconst (v := 1) hx hb dX12_hasOwn_65 (by decide) ?_
  refine lv_icmp_eq (tgt := 74) hx hb dX12_hasOwn_66 (by decide) (fun _ => ?_) (fun c9 => absurd (by decide) c9)
  refine lv_iconst (v := 1) hx hb dX12_hasOwn_74 (by decide) ?_
  refine lv_goto (tgt := 79) hx hb dX12_hasOwn_75 (by decide) ?_
  exact RP (v := 1) hC (rfl) (by decide +kernel) dX12_hasOwn_79
set_option maxHeartbeats 4000000 in
set_option maxRecDepth 100000 in
theorem m_hasOwn32 (l : Launch) (G : GG) : MP l G yX12_hasOwn cX12_hasOwn 2 (some .boolean) 1 [.int 3, .int 2] [] (fun r : Int32 => r = 0) := by
  refine MP.start (by decide +kernel) (Nat.le_of_ble_eq_true rfl) ?_
  intro p e s m below meth c ls hC hK hP hD hl
  have hl : lv_has ls 2 [(0, .int 3), (1, .int 2)] := hl
  obtain ⟨hx, hb, hr, hml, hB, hown, hlocks, hnm⟩ := id hC
  refine lv_iload_n hx hb dX12_hasOwn_0 rfl (lv_at hl 0 rfl) ?_
  refine lv_tableIn (tgt := 64) hx hb dX12_hasOwn_1 (by decide) (by decide) rfl (by decide) ?_
  refine lv_iload_n hx hb dX12_hasOwn_64 rfl (lv_at hl 1 rfl) ?_
  refine lv_iconst (v := 1) hx hb dX12_hasOwn_65 (by decide) ?_
  refine lv_icmp_eq (tgt := 74) hx hb dX12_hasOwn_66 (by decide) (fun c9 => absurd c9 (by decide)) (fun _ => ?_)
  refine lv_iload_n hx hb dX12_hasOwn_69 rfl (lv_at hl 1 rfl) ?_
  refine lv_iconst (v := 3) hx hb dX12_hasOwn_70 (by decide) ?_
  refine lv_icmp_ne (tgt := 78) hx hb dX12_hasOwn_71 (by decide) (fun _ => ?_) (fun c9 => absurd c9 (by decide))
  refine lv_iconst (v := 0) hx hb dX12_hasOwn_78 (by decide) ?_
  exact RP (v := 0) hC (rfl) (by decide +kernel) dX12_hasOwn_79
set_option maxHeartbeats 4000000 in
set_option maxRecDepth 100000 in
theorem m_hasOwn33 (l : Launch) (G : GG) : MP l G yX12_hasOwn cX12_hasOwn 2 (some .boolean) 1 [.int 3, .int 3] [] (fun r : Int32 => r = 1) := by
  refine MP.start (by decide +kernel) (Nat.le_of_ble_eq_true rfl) ?_
  intro p e s m below meth c ls hC hK hP hD hl
  have hl : lv_has ls 2 [(0, .int 3), (1, .int 3)] := hl
  obtain ⟨hx, hb, hr, hml, hB, hown, hlocks, hnm⟩ := id hC
  refine lv_iload_n hx hb dX12_hasOwn_0 rfl (lv_at hl 0 rfl) ?_
  refine lv_tableIn (tgt := 64) hx hb dX12_hasOwn_1 (by decide) (by decide) rfl (by decide) ?_
  refine lv_iload_n hx hb dX12_hasOwn_64 rfl (lv_at hl 1 rfl) ?_
  refine lv_iconst (v := 1) hx hb dX12_hasOwn_65 (by decide) ?_
  refine lv_icmp_eq (tgt := 74) hx hb dX12_hasOwn_66 (by decide) (fun c9 => absurd c9 (by decide)) (fun _ => ?_)
  refine lv_iload_n hx hb dX12_hasOwn_69 rfl (lv_at hl 1 rfl) ?_
  refine lv_iconst (v := 3) hx hb dX12_hasOwn_70 (by decide) ?_
  refine lv_icmp_ne (tgt := 78) hx hb dX12_hasOwn_71 (by decide) (fun c9 => absurd (by decide) c9) (fun _ => ?_)
  refine lv_iconst (v := 1) hx hb dX12_hasOwn_74 (by decide) ?_
  refine lv_goto (tgt := 79) hx hb dX12_hasOwn_75 (by decide) ?_
  exact RP (v := 1) hC (rfl) (by decide +kernel) dX12_hasOwn_79
set_option maxHeartbeats 4000000 in
set_option maxRecDepth 100000 in
theorem m_hasOwn40 (l : Launch) (G : GG) : MP l G yX12_hasOwn cX12_hasOwn 2 (some .boolean) 1 [.int 4, .int 0] [] (fun r : Int32 => r = 1) := by
  refine MP.start (by decide +kernel) (Nat.le_of_ble_eq_true rfl) ?_
  intro p e s m below meth c ls hC hK hP hD hl
  have hl : lv_has ls 2 [(0, .int 4), (1, .int 0)] := hl
  obtain ⟨hx, hb, hr, hml, hB, hown, hlocks, hnm⟩ := id hC
  refine lv_iload_n hx hb dX12_hasOwn_0 rfl (lv_at hl 0 rfl) ?_
  refine lv_tableIn (tgt := 80) hx hb dX12_hasOwn_1 (by decide) (by decide) rfl (by decide) ?_
  refine lv_iload_n hx hb dX12_hasOwn_80 rfl (lv_at hl 1 rfl) ?_
  refine lv_if_eq (tgt := 89) hx hb dX12_hasOwn_81 (by decide) (fun _ => ?_) (fun c9 => absurd (by decide) c9)
  refine lv_iconst (v := 1) hx hb dX12_hasOwn_89 (by decide) ?_
  refine lv_goto (tgt := 94) hx hb dX12_hasOwn_90 (by decide) ?_
  exact RP (v := 1) hC (rfl) (by decide +kernel) dX12_hasOwn_94
set_option maxHeartbeats 4000000 in
set_option maxRecDepth 100000 in
theorem m_hasOwn41 (l : Launch) (G : GG) : MP l G yX12_hasOwn cX12_hasOwn 2 (some .boolean) 1 [.int 4, .int 1] [] (fun r : Int32 => r = 0) := by
  refine MP.start (by decide +kernel) (Nat.le_of_ble_eq_true rfl) ?_
  intro p e s m below meth c ls hC hK hP hD hl
  have hl : lv_has ls 2 [(0, .int 4), (1, .int 1)] := hl
  obtain ⟨hx, hb, hr, hml, hB, hown, hlocks, hnm⟩ := id hC
  refine lv_iload_n hx hb dX12_hasOwn_0 rfl (lv_at hl 0 rfl) ?_
  refine lv_tableIn (tgt := 80) hx hb dX12_hasOwn_1 (by decide) (by decide) rfl (by decide) ?_
  refine lv_iload_n hx hb dX12_hasOwn_80 rfl (lv_at hl 1 rfl) ?_
  refine lv_if_eq (tgt := 89) hx hb dX12_hasOwn_81 (by decide) (fun c9 => absurd c9 (by decide)) (fun _ => ?_)
  refine lv_iload_n hx hb dX12_hasOwn_84 rfl (lv_at hl 1 rfl) ?_
  refine lv_iconst (v := 2) hx hb dX12_hasOwn_85 (by decide) ?_
  refine lv_icmp_ne (tgt := 93) hx hb dX12_hasOwn_86 (by decide) (fun _ => ?_) (fun c9 => absurd c9 (by decide))
  refine lv_iconst (v := 0) hx hb dX12_hasOwn_93 (by decide) ?_
  exact RP (v := 0) hC (rfl) (by decide +kernel) dX12_hasOwn_94
set_option maxHeartbeats 4000000 in
set_option maxRecDepth 100000 in
theorem m_hasOwn42 (l : Launch) (G : GG) : MP l G yX12_hasOwn cX12_hasOwn 2 (some .boolean) 1 [.int 4, .int 2] [] (fun r : Int32 => r = 1) := by
  refine MP.start (by decide +kernel) (Nat.le_of_ble_eq_true rfl) ?_
  intro p e s m below meth c ls hC hK hP hD hl
  have hl : lv_has ls 2 [(0, .int 4), (1, .int 2)] := hl
  obtain ⟨hx, hb, hr, hml, hB, hown, hlocks, hnm⟩ := id hC
  refine lv_iload_n hx hb dX12_hasOwn_0 rfl (lv_at hl 0 rfl) ?_
  refine lv_tableIn (tgt := 80) hx hb dX12_hasOwn_1 (by decide) (by decide) rfl (by decide) ?_
  refine lv_iload_n hx hb dX12_hasOwn_80 rfl (lv_at hl 1 rfl) ?_
  refine lv_if_eq (tgt := 89) hx hb dX12_hasOwn_81 (by decide) (fun c9 => absurd c9 (by decide)) (fun _ => ?_)
  refine lv_iload_n hx hb dX12_hasOwn_84 rfl (lv_at hl 1 rfl) ?_
  refine lv_iconst (v := 2) hx hb dX12_hasOwn_85 (by decide) ?_
  refine lv_icmp_ne (tgt := 93) hx hb dX12_hasOwn_86 (by decide) (fun c9 => absurd (by decide) c9) (fun _ => ?_)
  refine lv_iconst (v := 1) hx hb dX12_hasOwn_89 (by decide) ?_
  refine lv_goto (tgt := 94) hx hb dX12_hasOwn_90 (by decide) ?_
  exact RP (v := 1) hC (rfl) (by decide +kernel) dX12_hasOwn_94
set_option maxHeartbeats 4000000 in
set_option maxRecDepth 100000 in
theorem m_hasOwn43 (l : Launch) (G : GG) : MP l G yX12_hasOwn cX12_hasOwn 2 (some .boolean) 1 [.int 4, .int 3] [] (fun r : Int32 => r = 0) := by
  refine MP.start (by decide +kernel) (Nat.le_of_ble_eq_true rfl) ?_
  intro p e s m below meth c ls hC hK hP hD hl
  have hl : lv_has ls 2 [(0, .int 4), (1, .int 3)] := hl
  obtain ⟨hx, hb, hr, hml, hB, hown, hlocks, hnm⟩ := id hC
  refine lv_iload_n hx hb dX12_hasOwn_0 rfl (lv_at hl 0 rfl) ?_
  refine lv_tableIn (tgt := 80) hx hb dX12_hasOwn_1 (by decide) (by decide) rfl (by decide) ?_
  refine lv_iload_n hx hb dX12_hasOwn_80 rfl (lv_at hl 1 rfl) ?_
  refine lv_if_eq (tgt := 89) hx hb dX12_hasOwn_81 (by decide) (fun c9 => absurd c9 (by decide)) (fun _ => ?_)
  refine lv_iload_n hx hb dX12_hasOwn_84 rfl (lv_at hl 1 rfl) ?_
  refine lv_iconst (v := 2) hx hb dX12_hasOwn_85 (by decide) ?_
  refine lv_icmp_ne (tgt := 93) hx hb dX12_hasOwn_86 (by decide) (fun _ => ?_) (fun c9 => absurd c9 (by decide))
  refine lv_iconst (v := 0) hx hb dX12_hasOwn_93 (by decide) ?_
  exact RP (v := 0) hC (rfl) (by decide +kernel) dX12_hasOwn_94
set_option maxHeartbeats 4000000 in
set_option maxRecDepth 100000 in
theorem m_hasOwn50 (l : Launch) (G : GG) : MP l G yX12_hasOwn cX12_hasOwn 2 (some .boolean) 1 [.int 5, .int 0] [] (fun r : Int32 => r = 1) := by
  refine MP.start (by decide +kernel) (Nat.le_of_ble_eq_true rfl) ?_
  intro p e s m below meth c ls hC hK hP hD hl
  have hl : lv_has ls 2 [(0, .int 5), (1, .int 0)] := hl
  obtain ⟨hx, hb, hr, hml, hB, hown, hlocks, hnm⟩ := id hC
  refine lv_iload_n hx hb dX12_hasOwn_0 rfl (lv_at hl 0 rfl) ?_
  refine lv_tableIn (tgt := 80) hx hb dX12_hasOwn_1 (by decide) (by decide) rfl (by decide) ?_
  refine lv_iload_n hx hb dX12_hasOwn_80 rfl (lv_at hl 1 rfl) ?_
  refine lv_if_eq (tgt := 89) hx hb dX12_hasOwn_81 (by decide) (fun _ => ?_) (fun c9 => absurd (by decide) c9)
  refine lv_iconst (v := 1) hx hb dX12_hasOwn_89 (by decide) ?_
  refine lv_goto (tgt := 94) hx hb dX12_hasOwn_90 (by decide) ?_
  exact RP (v := 1) hC (rfl) (by decide +kernel) dX12_hasOwn_94
set_option maxHeartbeats 4000000 in
set_option maxRecDepth 100000 in
theorem m_hasOwn51 (l : Launch) (G : GG) : MP l G yX12_hasOwn cX12_hasOwn 2 (some .boolean) 1 [.int 5, .int 1] [] (fun r : Int32 => r = 0) := by
  refine MP.start (by decide +kernel) (Nat.le_of_ble_eq_true rfl) ?_
  intro p e s m below meth c ls hC hK hP hD hl
  have hl : lv_has ls 2 [(0, .int 5), (1, .int 1)] := hl
  obtain ⟨hx, hb, hr, hml, hB, hown, hlocks, hnm⟩ := id hC
  refine lv_iload_n hx hb dX12_hasOwn_0 rfl (lv_at hl 0 rfl) ?_
  refine lv_tableIn (tgt := 80) hx hb dX12_hasOwn_1 (by decide) (by decide) rfl (by decide) ?_
  refine lv_iload_n hx hb dX12_hasOwn_80 rfl (lv_at hl 1 rfl) ?_
  refine lv_if_eq (tgt := 89) hx hb dX12_hasOwn_81 (by decide) (fun c9 => absurd c9 (by decide)) (fun _ => ?_)
  refine lv_iload_n hx hb dX12_hasOwn_84 rfl (lv_at hl 1 rfl) ?_
  refine lv_iconst (v := 2) hx hb dX12_hasOwn_85 (by decide) ?_
  refine lv_icmp_ne (tgt := 93) hx hb dX12_hasOwn_86 (by decide) (fun _ => ?_) (fun c9 => absurd c9 (by decide))
  refine lv_iconst (v := 0) hx hb dX12_hasOwn_93 (by decide) ?_
  exact RP (v := 0) hC (rfl) (by decide +kernel) dX12_hasOwn_94
set_option maxHeartbeats 4000000 in
set_option maxRecDepth 100000 in
theorem m_hasOwn52 (l : Launch) (G : GG) : MP l G yX12_hasOwn cX12_hasOwn 2 (some .boolean) 1 [.int 5, .int 2] [] (fun r : Int32 => r = 1) := by
  refine MP.start (by decide +kernel) (Nat.le_of_ble_eq_true rfl) ?_
  intro p e s m below meth c ls hC hK hP hD hl
  have hl : lv_has ls 2 [(0, .int 5), (1, .int 2)] := hl
  obtain ⟨hx, hb, hr, hml, hB, hown, hlocks, hnm⟩ := id hC
  refine lv_iload_n hx hb dX12_hasOwn_0 rfl (lv_at hl 0 rfl) ?_
  refine lv_tableIn (tgt := 80) hx hb dX12_hasOwn_1 (by decide) (by decide) rfl (by decide) ?_
  refine lv_iload_n hx hb dX12_hasOwn_80 rfl (lv_at hl 1 rfl) ?_
  refine lv_if_eq (tgt := 89) hx hb dX12_hasOwn_81 (by decide) (fun c9 => absurd c9 (by decide)) (fun _ => ?_)
  refine lv_iload_n hx hb dX12_hasOwn_84 rfl (lv_at hl 1 rfl) ?_
  refine lv_iconst (v := 2) hx hb dX12_hasOwn_85 (by decide) ?_
  refine lv_icmp_ne (tgt := 93) hx hb dX12_hasOwn_86 (by decide) (fun c9 => absurd (by decide) c9) (fun _ => ?_)
  refine lv_iconst (v := 1) hx hb dX12_hasOwn_89 (by decide) ?_
  refine lv_goto (tgt := 94) hx hb dX12_hasOwn_90 (by decide) ?_
  exact RP (v := 1) hC (rfl) (by decide +kernel) dX12_hasOwn_94
set_option maxHeartbeats 4000000 in
set_option maxRecDepth 100000 in
theorem m_hasOwn53 (l : Launch) (G : GG) : MP l G yX12_hasOwn cX12_hasOwn 2 (some .boolean) 1 [.int 5, .int 3] [] (fun r : Int32 => r = 0) := by
  refine MP.start (by decide +kernel) (Nat.le_of_ble_eq_true rfl) ?_
  intro p e s m below meth c ls hC hK hP hD hl
  have hl : lv_has ls 2 [(0, .int 5), (1, .int 3)] := hl
  obtain ⟨hx, hb, hr, hml, hB, hown, hlocks, hnm⟩ := id hC
  refine lv_iload_n hx hb dX12_hasOwn_0 rfl (lv_at hl 0 rfl) ?_
  refine lv_tableIn (tgt := 80) hx hb dX12_hasOwn_1 (by decide) (by decide) rfl (by decide) ?_
  refine lv_iload_n hx hb dX12_hasOwn_80 rfl (lv_at hl 1 rfl) ?_
  refine lv_if_eq (tgt := 89) hx hb dX12_hasOwn_81 (by decide) (fun c9 => absurd c9 (by decide)) (fun _ => ?_)
  refine lv_iload_n hx hb dX12_hasOwn_84 rfl (lv_at hl 1 rfl) ?_
  refine lv_iconst (v := 2) hx hb dX12_hasOwn_85 (by decide) ?_
  refine lv_icmp_ne (tgt := 93) hx hb dX12_hasOwn_86 (by decide) (fun _ => ?_) (fun c9 => absurd c9 (by decide))
  refine lv_iconst (v := 0) hx hb dX12_hasOwn_93 (by decide) ?_
  exact RP (v := 0) hC (rfl) (by decide +kernel) dX12_hasOwn_94
set_option maxHeartbeats 4000000 in
set_option maxRecDepth 100000 in
theorem m_hasOwn60 (l : Launch) (G : GG) : MP l G yX12_hasOwn cX12_hasOwn 2 (some .boolean) 1 [.int 6, .int 0] [] (fun r : Int32 => r = 0) := by
  refine MP.start (by decide +kernel) (Nat.le_of_ble_eq_true rfl) ?_
  intro p e s m below meth c ls hC hK hP hD hl
  have hl : lv_has ls 2 [(0, .int 6), (1, .int 0)] := hl
  obtain ⟨hx, hb, hr, hml, hB, hown, hlocks, hnm⟩ := id hC
  refine lv_iload_n hx hb dX12_hasOwn_0 rfl (lv_at hl 0 rfl) ?_
  refine lv_tableOut (tgt := 95) hx hb dX12_hasOwn_1 (by decide) (by decide) ?_
  refine lv_iload_n hx hb dX12_hasOwn_95 rfl (lv_at hl 1 rfl) ?_
  refine lv_iconst (v := 3) hx hb dX12_hasOwn_96 (by decide) ?_
  refine lv_icmp_ne (tgt := 104) hx hb dX12_hasOwn_97 (by decide) (fun _ => ?_) (fun c9 => absurd c9 (by decide))
  refine lv_iconst (v := 0) hx hb dX12_hasOwn_104 (by decide) ?_
  exact RP (v := 0) hC (rfl) (by decide +kernel) dX12_hasOwn_105
set_option maxHeartbeats 4000000 in
set_option maxRecDepth 100000 in
theorem m_hasOwn61 (l : Launch) (G : GG) : MP l G yX12_hasOwn cX12_hasOwn 2 (some .boolean) 1 [.int 6, .int 1] [] (fun r : Int32 => r = 0) := by
  refine MP.start (by decide +kernel) (Nat.le_of_ble_eq_true rfl) ?_
  intro p e s m below meth c ls hC hK hP hD hl
  have hl : lv_has ls 2 [(0, .int 6), (1, .int 1)] := hl
  obtain ⟨hx, hb, hr, hml, hB, hown, hlocks, hnm⟩ := id hC
  refine lv_iload_n hx hb dX12_hasOwn_0 rfl (lv_at hl 0 rfl) ?_
  refine lv_tableOut (tgt := 95) hx hb dX12_hasOwn_1 (by decide) (by decide) ?_
  refine lv_iload_n hx hb dX12_hasOwn_95 rfl (lv_at hl 1 rfl) ?_
  refine lv_iconst (v := 3) hx hb dX12_hasOwn_96 (by decide) ?_
  refine lv_icmp_ne (tgt := 104) hx hb dX12_hasOwn_97 (by decide) (fun _ => ?_) (fun c9 => absurd c9 (by decide))
  refine lv_iconst (v := 0) hx hb dX12_hasOwn_104 (by decide) ?_
  exact RP (v := 0) hC (rfl) (by decide +kernel) dX12_hasOwn_105
set_option maxHeartbeats 4000000 in
set_option maxRecDepth 100000 in
theorem m_hasOwn62 (l : Launch) (G : GG) : MP l G yX12_hasOwn cX12_hasOwn 2 (some .boolean) 1 [.int 6, .int 2] [] (fun r : Int32 => r = 0) := by
  refine MP.start (by decide +kernel) (Nat.le_of_ble_eq_true rfl) ?_
  intro p e s m below meth c ls hC hK hP hD hl
  have hl : lv_has ls 2 [(0, .int 6), (1, .int 2)] := hl
  obtain ⟨hx, hb, hr, hml, hB, hown, hlocks, hnm⟩ := id hC
  refine lv_iload_n hx hb dX12_hasOwn_0 rfl (lv_at hl 0 rfl) ?_
  refine lv_tableOut (tgt := 95) hx hb dX12_hasOwn_1 (by decide) (by decide) ?_
  refine lv_iload_n hx hb dX12_hasOwn_95 rfl (lv_at hl 1 rfl) ?_
  refine lv_iconst (v := 3) hx hb dX12_hasOwn_96 (by decide) ?_
  refine lv_icmp_ne (tgt := 104) hx hb dX12_hasOwn_97 (by decide) (fun _ => ?_) (fun c9 => absurd c9 (by decide))
  refine lv_iconst (v := 0) hx hb dX12_hasOwn_104 (by decide) ?_
  exact RP (v := 0) hC (rfl) (by decide +kernel) dX12_hasOwn_105
set_option maxHeartbeats 4000000 in
set_option maxRecDepth 100000 in
theorem m_hasOwn63 (l : Launch) (G : GG) : MP l G yX12_hasOwn cX12_hasOwn 2 (some .boolean) 1 [.int 6, .int 3] [] (fun r : Int32 => r = 1) := by
  refine MP.start (by decide +kernel) (Nat.le_of_ble_eq_true rfl) ?_
  intro p e s m below meth c ls hC hK hP hD hl
  have hl : lv_has ls 2 [(0, .int 6), (1, .int 3)] := hl
  obtain ⟨hx, hb, hr, hml, hB, hown, hlocks, hnm⟩ := id hC
  refine lv_iload_n hx hb dX12_hasOwn_0 rfl (lv_at hl 0 rfl) ?_
  refine lv_tableOut (tgt := 95) hx hb dX12_hasOwn_1 (by decide) (by decide) ?_
  refine lv_iload_n hx hb dX12_hasOwn_95 rfl (lv_at hl 1 rfl) ?_
  refine lv_iconst (v := 3) hx hb dX12_hasOwn_96 (by decide) ?_
  refine lv_icmp_ne (tgt := 104) hx hb dX12_hasOwn_97 (by decide) (fun c9 => absurd (by decide) c9) (fun _ => ?_)
  refine lv_iconst (v := 1) hx hb dX12_hasOwn_100 (by decide) ?_
  refine lv_goto (tgt := 105) hx hb dX12_hasOwn_101 (by decide) ?_
  exact RP (v := 1) hC (rfl) (by decide +kernel) dX12_hasOwn_105
set_option maxHeartbeats 4000000 in
set_option maxRecDepth 100000 in
theorem r_taken (l : Launch) (G : GG) (h0 : Nat) (x1 : Int32) (x2 : Int32) (nw : Nat) (nk : Nat) (mhasKept : Int32) (nt : Nat) (mtaped : Int32) (nr : Nat) (mrowMany : Int32) (mroundOf : Int32) (mroundFrom : Int32) (mouts : Int32) (nm : Nat) (mfromHour : Int32) (mtoHour : Int32) (ns : Nat) (mfrom : Int32) (mto : Int32) (msort : Int32) (misFault : Int32) (mdeep : Int32) (mcoded : Int32) (mlines : Int32) (nl : Nat) (nc : Nat) (nF : Nat) (np : Nat) (ntr : Nat) (nb : Nat) (mbestCost : Int32) (nso : Nat) (nsi : Nat) (nit : Nat) (nsh : Nat) (nsf : Nat) (nss : Nat) (nrc : Nat) (mtraced : Int32) (mdealer : Int32) (mnumber : Int32) (mwhose : Int32) (msize : Int32) (misParted : Int32) (fnw : Nat → Int32) (fnsh : Nat → Int32) (fnsf : Nat → Int32) (fnss : Nat → Int32) (hN : NI fnw) : MP l G yX12_taken cX12_taken 4 (some .int) 4 [.ref h0, .int x1, .int x2] [(h0, .inr (12, [.ref nw, .ref nk, .int mhasKept, .ref nt, .int mtaped, .ref nr, .int mrowMany, .int mroundOf, .int mroundFrom, .int mouts, .ref nm, .int mfromHour, .int mtoHour, .ref ns, .int mfrom, .int mto, .int msort, .int misFault, .int mdeep, .int mcoded, .int mlines, .ref nl, .ref nc, .ref nF, .ref np, .ref ntr, .ref nb, .int mbestCost, .ref nso, .ref nsi, .ref nit, .ref nsh, .ref nsf, .ref nss, .ref nrc, .int mtraced, .int mdealer, .int mnumber, .int mwhose, .int msize, .int misParted])), (nw, .inl (G.2.1, 1662, .inl fnw)), (nsh, .inl (G.2.1, 4, .inl fnsh)), (nsf, .inl (G.2.1, 4, .inl fnsf)), (nss, .inl (G.2.1, 4, .inl fnss))] (fun r : Int32 => True) := by
  refine MP.start (by decide +kernel) (Nat.le_of_ble_eq_true rfl) ?_
  intro p e s m below meth c ls hC hK hP hD hl
  have hl : lv_has ls 4 [(0, .ref h0), (1, .int x1), (2, .int x2)] := hl
  obtain ⟨hx, hb, hr, hml, hB, hown, hlocks, hnm⟩ := id hC
  refine lv_iload_n hx hb dX12_taken_0 rfl (lv_at hl 1 rfl) ?_
  refine pS hC hK hl (m_isFour l G x1) si_X12_336 rfl rfl (Nat.le_of_ble_eq_true rfl) ⟨Nat.le_of_ble_eq_true rfl, Nat.le_of_ble_eq_true rfl⟩ ⟨by first | exact Nat.le_of_ble_eq_true rfl | exact Nat.zero_le _, by first | exact Nat.le_of_ble_eq_true rfl | exact Nat.zero_le _⟩ dX12_taken_1 (fun r5380 hr5380 => ?_)
  rcases hr5380 with ⟨rfl, a5381⟩ | ⟨rfl, a5381⟩
  · refine lv_if_eq (tgt := 28) hx hb dX12_taken_4 (by decide) (fun c9 => absurd c9 (by decide)) (fun _ => ?_)
    refine lv_iload_n hx hb dX12_taken_7 rfl (lv_at hl 2 rfl) ?_
    refine lv_iconst (v := 0) hx hb dX12_taken_8 (by decide) ?_
    refine lv_bipush (v := 6) hx hb dX12_taken_9 (by decide) ?_
    refine pS hC hK hl (m_within l G x2 0 6) si_X12_84 rfl rfl (Nat.le_of_ble_eq_true rfl) ⟨Nat.le_of_ble_eq_true rfl, Nat.le_of_ble_eq_true rfl⟩ ⟨by first | exact Nat.le_of_ble_eq_true rfl | exact Nat.zero_le _, by first | exact Nat.le_of_ble_eq_true rfl | exact Nat.zero_le _⟩ dX12_taken_11 (fun r5382 hr5382 => ?_)
    rcases hr5382 with ⟨rfl, a5383⟩ | ⟨rfl, a5383⟩
    · refine lv_if_ne (tgt := 30) hx hb dX12_taken_14 (by decide) (fun _ => ?_) (fun c9 => absurd c9 (by decide))
      obtain ⟨jt, hjt, rfl⟩ := Wi_nat (N := 3) (by decide) a5381
      refine lv_aload_n hx hb dX12_taken_30 rfl (lv_at hl 0 rfl) ?_
      refine gf_X12_72 hC rfl hK hP 0 rfl rfl dX12_taken_31 ?_
      refine lv_iload_n hx hb dX12_taken_34 rfl (lv_at hl 1 rfl) ?_
      refine ald hC hK hP 2 rfl (vp_in_nI (by omega) (by omega)) (k := jt) (nI_clamp (by omega)) (v := fnsh jt) rfl dX12_taken_35 ?_
      refine lv_topi (fun x5384 ex5384 => ?_)
      refine lv_iconst (v := 4) hx hb dX12_taken_36 (by decide) ?_
      refine lv_icmp_ne (tgt := 65) hx hb dX12_taken_37 (by decide) (fun c_37_5385 => ?_) (fun c_37_5385 => ?_)
      · refine lv_aload_n hx hb dX12_taken_65 rfl (lv_at hl 0 rfl) ?_
        refine lv_iload_n hx hb dX12_taken_66 rfl (lv_at hl 1 rfl) ?_
        refine pV hC hK hl hP hD (m_kindOn l G h0 jt nw nk mhasKept nt mtaped nr mrowMany mroundOf mroundFrom mouts nm mfromHour mtoHour ns mfrom mto msort misFault mdeep mcoded mlines nl nc nF np ntr nb mbestCost nso nsi nit nsh nsf nss nrc mtraced mdealer mnumber mwhose msize misParted fnw fnsh fnsf (by omega) (hN)) si_X12_345 [0, 1, 2, 3] rfl rfl (by decide) rfl rfl rfl rfl rfl (Nat.le_of_ble_eq_true rfl) ⟨Nat.le_of_ble_eq_true rfl, Nat.le_of_ble_eq_true rfl⟩ ⟨by first | exact Nat.le_of_ble_eq_true rfl | exact Nat.zero_le _, by first | exact Nat.le_of_ble_eq_true rfl | exact Nat.zero_le _⟩ dX12_taken_67 (fun r5386 hr5386 => ?_)
        rcases hr5386 with rfl | ⟨rfl, a5387⟩ | ⟨rfl, a5387⟩ | ⟨rfl, a5387⟩ | ⟨rfl, a5387⟩ | ⟨rfl, a5387⟩ | ⟨rfl, a5387⟩
        · refine lv_istore_n (lv' := [(3, .int (-1)), (0, .ref h0), (1, .int (nI jt)), (2, .int x2)]) hx hb dX12_taken_70 rfl hl (by decide) rfl (fun ls hl => ?_)
          refine lv_iload_n hx hb dX12_taken_71 rfl (lv_at hl 0 rfl) ?_
          refine lv_if_ge (tgt := 78) hx hb dX12_taken_72 (by decide) (fun c9 => absurd c9 (by decide)) (fun _ => ?_)
          refine lv_bipush (v := (-11)) hx hb dX12_taken_75 (by decide) ?_
          exact RP (v := (-11)) hC (trivial) rfl dX12_taken_77
        · refine lv_istore_n (lv' := [(3, .int 1), (0, .ref h0), (1, .int (nI jt)), (2, .int x2)]) hx hb dX12_taken_70 rfl hl (by decide) rfl (fun ls hl => ?_)
          refine lv_iload_n hx hb dX12_taken_71 rfl (lv_at hl 0 rfl) ?_
          refine lv_if_ge (tgt := 78) hx hb dX12_taken_72 (by decide) (fun _ => ?_) (fun c9 => absurd (by decide) c9)
          refine lv_iload_n hx hb dX12_taken_78 rfl (lv_at hl 0 rfl) ?_
          refine lv_if_lt (tgt := 95) hx hb dX12_taken_79 (by decide) (fun c9 => absurd c9 (by decide)) (fun _ => ?_)
          refine lv_iload_n hx hb dX12_taken_82 rfl (lv_at hl 0 rfl) ?_
          refine lv_iload_n hx hb dX12_taken_83 rfl (lv_at hl 3 rfl) ?_
          refine lv_icmp_eq (tgt := 95) hx hb dX12_taken_84 (by decide) (fun c_84_5388 => ?_) (fun c_84_5388 => ?_)
          · refine lv_iload_n hx hb dX12_taken_95 rfl (lv_at hl 0 rfl) ?_
            refine lv_iload_n hx hb dX12_taken_96 rfl (lv_at hl 3 rfl) ?_
            refine lv_icmp_ne (tgt := 109) hx hb dX12_taken_97 (by decide) (fun c9 => absurd (c_84_5388) c9) (fun _ => ?_)
            refine lv_aload_n hx hb dX12_taken_100 rfl (lv_at hl 1 rfl) ?_
            refine gf_X12_75 hC rfl hK hP 0 rfl rfl dX12_taken_101 ?_
            refine lv_iload_n hx hb dX12_taken_104 rfl (lv_at hl 2 rfl) ?_
            refine ald hC hK hP 3 rfl (vp_in_nI (by omega) (by omega)) (k := jt) (nI_clamp (by omega)) (v := fnsf jt) rfl dX12_taken_105 ?_
            refine lv_topi (fun x5389 ex5389 => ?_)
            refine lv_goto (tgt := 111) hx hb dX12_taken_106 (by decide) ?_
            exact RP (v := x5389) hC (trivial) rfl dX12_taken_111
          · refine lv_iload_n hx hb dX12_taken_87 rfl (lv_at hl 0 rfl) ?_
            refine pS hC hK hl (m_above1 l G) si_X12_348 rfl rfl (Nat.le_of_ble_eq_true rfl) ⟨Nat.le_of_ble_eq_true rfl, Nat.le_of_ble_eq_true rfl⟩ ⟨by first | exact Nat.le_of_ble_eq_true rfl | exact Nat.zero_le _, by first | exact Nat.le_of_ble_eq_true rfl | exact Nat.zero_le _⟩ dX12_taken_88 (fun r5390 hr5390 => ?_)
            obtain rfl := hr5390
            refine lv_istore_n (lv' := [(3, .int 0), (0, .ref h0), (1, .int (nI jt)), (2, .int x2)]) hx hb dX12_taken_91 rfl hl (by decide) rfl (fun ls hl => ?_)
            refine lv_goto (tgt := 78) hx hb dX12_taken_92 (by decide) ?_
            refine lv_iload_n hx hb dX12_taken_78 rfl (lv_at hl 0 rfl) ?_
            refine lv_if_lt (tgt := 95) hx hb dX12_taken_79 (by decide) (fun c9 => absurd c9 (by decide)) (fun _ => ?_)
            refine lv_iload_n hx hb dX12_taken_82 rfl (lv_at hl 0 rfl) ?_
            refine lv_iload_n hx hb dX12_taken_83 rfl (lv_at hl 3 rfl) ?_
            refine lv_icmp_eq (tgt := 95) hx hb dX12_taken_84 (by decide) (fun c_84_5392 => ?_) (fun c_84_5392 => ?_)
            · refine lv_iload_n hx hb dX12_taken_95 rfl (lv_at hl 0 rfl) ?_
              refine lv_iload_n hx hb dX12_taken_96 rfl (lv_at hl 3 rfl) ?_
              refine lv_icmp_ne (tgt := 109) hx hb dX12_taken_97 (by decide) (fun c9 => absurd (c_84_5392) c9) (fun _ => ?_)
              refine lv_aload_n hx hb dX12_taken_100 rfl (lv_at hl 1 rfl) ?_
              refine gf_X12_75 hC rfl hK hP 0 rfl rfl dX12_taken_101 ?_
              refine lv_iload_n hx hb dX12_taken_104 rfl (lv_at hl 2 rfl) ?_
              refine ald hC hK hP 3 rfl (vp_in_nI (by omega) (by omega)) (k := jt) (nI_clamp (by omega)) (v := fnsf jt) rfl dX12_taken_105 ?_
              refine lv_topi (fun x5393 ex5393 => ?_)
              refine lv_goto (tgt := 111) hx hb dX12_taken_106 (by decide) ?_
              exact RP (v := x5393) hC (trivial) rfl dX12_taken_111
            · refine lv_iload_n hx hb dX12_taken_87 rfl (lv_at hl 0 rfl) ?_
              refine pS hC hK hl (m_above0 l G) si_X12_348 rfl rfl (Nat.le_of_ble_eq_true rfl) ⟨Nat.le_of_ble_eq_true rfl, Nat.le_of_ble_eq_true rfl⟩ ⟨by first | exact Nat.le_of_ble_eq_true rfl | exact Nat.zero_le _, by first | exact Nat.le_of_ble_eq_true rfl | exact Nat.zero_le _⟩ dX12_taken_88 (fun r5394 hr5394 => ?_)
              obtain rfl := hr5394
              refine lv_istore_n (lv' := [(3, .int (-1)), (0, .ref h0), (1, .int (nI jt)), (2, .int x2)]) hx hb dX12_taken_91 rfl hl (by decide) rfl (fun ls hl => ?_)
              refine lv_goto (tgt := 78) hx hb dX12_taken_92 (by decide) ?_
              refine lv_iload_n hx hb dX12_taken_78 rfl (lv_at hl 0 rfl) ?_
              refine lv_if_lt (tgt := 95) hx hb dX12_taken_79 (by decide) (fun _ => ?_) (fun c9 => absurd (by decide) c9)
              refine lv_iload_n hx hb dX12_taken_95 rfl (lv_at hl 0 rfl) ?_
              refine lv_iload_n hx hb dX12_taken_96 rfl (lv_at hl 3 rfl) ?_
              refine lv_icmp_ne (tgt := 109) hx hb dX12_taken_97 (by decide) (fun c_97_5396 => ?_) (fun c_97_5396 => ?_)
              · refine lv_bipush (v := (-13)) hx hb dX12_taken_109 (by decide) ?_
                exact RP (v := (-13)) hC (trivial) rfl dX12_taken_111
              · refine lv_aload_n hx hb dX12_taken_100 rfl (lv_at hl 1 rfl) ?_
                refine gf_X12_75 hC rfl hK hP 0 rfl rfl dX12_taken_101 ?_
                refine lv_iload_n hx hb dX12_taken_104 rfl (lv_at hl 2 rfl) ?_
                refine ald hC hK hP 3 rfl (vp_in_nI (by omega) (by omega)) (k := jt) (nI_clamp (by omega)) (v := fnsf jt) rfl dX12_taken_105 ?_
                refine lv_topi (fun x5397 ex5397 => ?_)
                refine lv_goto (tgt := 111) hx hb dX12_taken_106 (by decide) ?_
                exact RP (v := x5397) hC (trivial) rfl dX12_taken_111
        · refine lv_istore_n (lv' := [(3, .int 2), (0, .ref h0), (1, .int (nI jt)), (2, .int x2)]) hx hb dX12_taken_70 rfl hl (by decide) rfl (fun ls hl => ?_)
          refine lv_iload_n hx hb dX12_taken_71 rfl (lv_at hl 0 rfl) ?_
          refine lv_if_ge (tgt := 78) hx hb dX12_taken_72 (by decide) (fun _ => ?_) (fun c9 => absurd (by decide) c9)
          refine lv_iload_n hx hb dX12_taken_78 rfl (lv_at hl 0 rfl) ?_
          refine lv_if_lt (tgt := 95) hx hb dX12_taken_79 (by decide) (fun c9 => absurd c9 (by decide)) (fun _ => ?_)
          refine lv_iload_n hx hb dX12_taken_82 rfl (lv_at hl 0 rfl) ?_
          refine lv_iload_n hx hb dX12_taken_83 rfl (lv_at hl 3 rfl) ?_
          refine lv_icmp_eq (tgt := 95) hx hb dX12_taken_84 (by decide) (fun c_84_5398 => ?_) (fun c_84_5398 => ?_)
          · refine lv_iload_n hx hb dX12_taken_95 rfl (lv_at hl 0 rfl) ?_
            refine lv_iload_n hx hb dX12_taken_96 rfl (lv_at hl 3 rfl) ?_
            refine lv_icmp_ne (tgt := 109) hx hb dX12_taken_97 (by decide) (fun c9 => absurd (c_84_5398) c9) (fun _ => ?_)
            refine lv_aload_n hx hb dX12_taken_100 rfl (lv_at hl 1 rfl) ?_
            refine gf_X12_75 hC rfl hK hP 0 rfl rfl dX12_taken_101 ?_
            refine lv_iload_n hx hb dX12_taken_104 rfl (lv_at hl 2 rfl) ?_
            refine ald hC hK hP 3 rfl (vp_in_nI (by omega) (by omega)) (k := jt) (nI_clamp (by omega)) (v := fnsf jt) rfl dX12_taken_105 ?_
            refine lv_topi (fun x5399 ex5399 => ?_)
            refine lv_goto (tgt := 111) hx hb dX12_taken_106 (by decide) ?_
            exact RP (v := x5399) hC (trivial) rfl dX12_taken_111
          · refine lv_iload_n hx hb dX12_taken_87 rfl (lv_at hl 0 rfl) ?_
            refine pS hC hK hl (m_above2 l G) si_X12_348 rfl rfl (Nat.le_of_ble_eq_true rfl) ⟨Nat.le_of_ble_eq_true rfl, Nat.le_of_ble_eq_true rfl⟩ ⟨by first | exact Nat.le_of_ble_eq_true rfl | exact Nat.zero_le _, by first | exact Nat.le_of_ble_eq_true rfl | exact Nat.zero_le _⟩ dX12_taken_88 (fun r5400 hr5400 => ?_)
            obtain rfl := hr5400
            refine lv_istore_n (lv' := [(3, .int 0), (0, .ref h0), (1, .int (nI jt)), (2, .int x2)]) hx hb dX12_taken_91 rfl hl (by decide) rfl (fun ls hl => ?_)
            refine lv_goto (tgt := 78) hx hb dX12_taken_92 (by decide) ?_
            refine lv_iload_n hx hb dX12_taken_78 rfl (lv_at hl 0 rfl) ?_
            refine lv_if_lt (tgt := 95) hx hb dX12_taken_79 (by decide) (fun c9 => absurd c9 (by decide)) (fun _ => ?_)
            refine lv_iload_n hx hb dX12_taken_82 rfl (lv_at hl 0 rfl) ?_
            refine lv_iload_n hx hb dX12_taken_83 rfl (lv_at hl 3 rfl) ?_
            refine lv_icmp_eq (tgt := 95) hx hb dX12_taken_84 (by decide) (fun c_84_5402 => ?_) (fun c_84_5402 => ?_)
            · refine lv_iload_n hx hb dX12_taken_95 rfl (lv_at hl 0 rfl) ?_
              refine lv_iload_n hx hb dX12_taken_96 rfl (lv_at hl 3 rfl) ?_
              refine lv_icmp_ne (tgt := 109) hx hb dX12_taken_97 (by decide) (fun c9 => absurd (c_84_5402) c9) (fun _ => ?_)
              refine lv_aload_n hx hb dX12_taken_100 rfl (lv_at hl 1 rfl) ?_
              refine gf_X12_75 hC rfl hK hP 0 rfl rfl dX12_taken_101 ?_
              refine lv_iload_n hx hb dX12_taken_104 rfl (lv_at hl 2 rfl) ?_
              refine ald hC hK hP 3 rfl (vp_in_nI (by omega) (by omega)) (k := jt) (nI_clamp (by omega)) (v := fnsf jt) rfl dX12_taken_105 ?_
              refine lv_topi (fun x5403 ex5403 => ?_)
              refine lv_goto (tgt := 111) hx hb dX12_taken_106 (by decide) ?_
              exact RP (v := x5403) hC (trivial) rfl dX12_taken_111
            · refine lv_iload_n hx hb dX12_taken_87 rfl (lv_at hl 0 rfl) ?_
              refine pS hC hK hl (m_above0 l G) si_X12_348 rfl rfl (Nat.le_of_ble_eq_true rfl) ⟨Nat.le_of_ble_eq_true rfl, Nat.le_of_ble_eq_true rfl⟩ ⟨by first | exact Nat.le_of_ble_eq_true rfl | exact Nat.zero_le _, by first | exact Nat.le_of_ble_eq_true rfl | exact Nat.zero_le _⟩ dX12_taken_88 (fun r5404 hr5404 => ?_)
              obtain rfl := hr5404
              refine lv_istore_n (lv' := [(3, .int (-1)), (0, .ref h0), (1, .int (nI jt)), (2, .int x2)]) hx hb dX12_taken_91 rfl hl (by decide) rfl (fun ls hl => ?_)
              refine lv_goto (tgt := 78) hx hb dX12_taken_92 (by decide) ?_
              refine lv_iload_n hx hb dX12_taken_78 rfl (lv_at hl 0 rfl) ?_
              refine lv_if_lt (tgt := 95) hx hb dX12_taken_79 (by decide) (fun _ => ?_) (fun c9 => absurd (by decide) c9)
              refine lv_iload_n hx hb dX12_taken_95 rfl (lv_at hl 0 rfl) ?_
              refine lv_iload_n hx hb dX12_taken_96 rfl (lv_at hl 3 rfl) ?_
              refine lv_icmp_ne (tgt := 109) hx hb dX12_taken_97 (by decide) (fun c_97_5406 => ?_) (fun c_97_5406 => ?_)
              · refine lv_bipush (v := (-13)) hx hb dX12_taken_109 (by decide) ?_
                exact RP (v := (-13)) hC (trivial) rfl dX12_taken_111
              · refine lv_aload_n hx hb dX12_taken_100 rfl (lv_at hl 1 rfl) ?_
                refine gf_X12_75 hC rfl hK hP 0 rfl rfl dX12_taken_101 ?_
                refine lv_iload_n hx hb dX12_taken_104 rfl (lv_at hl 2 rfl) ?_
                refine ald hC hK hP 3 rfl (vp_in_nI (by omega) (by omega)) (k := jt) (nI_clamp (by omega)) (v := fnsf jt) rfl dX12_taken_105 ?_
                refine lv_topi (fun x5407 ex5407 => ?_)
                refine lv_goto (tgt := 111) hx hb dX12_taken_106 (by decide) ?_
                exact RP (v := x5407) hC (trivial) rfl dX12_taken_111
        · refine lv_istore_n (lv' := [(3, .int 3), (0, .ref h0), (1, .int (nI jt)), (2, .int x2)]) hx hb dX12_taken_70 rfl hl (by decide) rfl (fun ls hl => ?_)
          refine lv_iload_n hx hb dX12_taken_71 rfl (lv_at hl 0 rfl) ?_
          refine lv_if_ge (tgt := 78) hx hb dX12_taken_72 (by decide) (fun _ => ?_) (fun c9 => absurd (by decide) c9)
          refine lv_iload_n hx hb dX12_taken_78 rfl (lv_at hl 0 rfl) ?_
          refine lv_if_lt (tgt := 95) hx hb dX12_taken_79 (by decide) (fun c9 => absurd c9 (by decide)) (fun _ => ?_)
          refine lv_iload_n hx hb dX12_taken_82 rfl (lv_at hl 0 rfl) ?_
          refine lv_iload_n hx hb dX12_taken_83 rfl (lv_at hl 3 rfl) ?_
          refine lv_icmp_eq (tgt := 95) hx hb dX12_taken_84 (by decide) (fun c_84_5408 => ?_) (fun c_84_5408 => ?_)
          · refine lv_iload_n hx hb dX12_taken_95 rfl (lv_at hl 0 rfl) ?_
            refine lv_iload_n hx hb dX12_taken_96 rfl (lv_at hl 3 rfl) ?_
            refine lv_icmp_ne (tgt := 109) hx hb dX12_taken_97 (by decide) (fun c9 => absurd (c_84_5408) c9) (fun _ => ?_)
            refine lv_aload_n hx hb dX12_taken_100 rfl (lv_at hl 1 rfl) ?_
            refine gf_X12_75 hC rfl hK hP 0 rfl rfl dX12_taken_101 ?_
            refine lv_iload_n hx hb dX12_taken_104 rfl (lv_at hl 2 rfl) ?_
            refine ald hC hK hP 3 rfl (vp_in_nI (by omega) (by omega)) (k := jt) (nI_clamp (by omega)) (v := fnsf jt) rfl dX12_taken_105 ?_
            refine lv_topi (fun x5409 ex5409 => ?_)
            refine lv_goto (tgt := 111) hx hb dX12_taken_106 (by decide) ?_
            exact RP (v := x5409) hC (trivial) rfl dX12_taken_111
          · refine lv_iload_n hx hb dX12_taken_87 rfl (lv_at hl 0 rfl) ?_
            refine pS hC hK hl (m_above3 l G) si_X12_348 rfl rfl (Nat.le_of_ble_eq_true rfl) ⟨Nat.le_of_ble_eq_true rfl, Nat.le_of_ble_eq_true rfl⟩ ⟨by first | exact Nat.le_of_ble_eq_true rfl | exact Nat.zero_le _, by first | exact Nat.le_of_ble_eq_true rfl | exact Nat.zero_le _⟩ dX12_taken_88 (fun r5410 hr5410 => ?_)
            obtain rfl := hr5410
            refine lv_istore_n (lv' := [(3, .int 1), (0, .ref h0), (1, .int (nI jt)), (2, .int x2)]) hx hb dX12_taken_91 rfl hl (by decide) rfl (fun ls hl => ?_)
            refine lv_goto (tgt := 78) hx hb dX12_taken_92 (by decide) ?_
            refine lv_iload_n hx hb dX12_taken_78 rfl (lv_at hl 0 rfl) ?_
            refine lv_if_lt (tgt := 95) hx hb dX12_taken_79 (by decide) (fun c9 => absurd c9 (by decide)) (fun _ => ?_)
            refine lv_iload_n hx hb dX12_taken_82 rfl (lv_at hl 0 rfl) ?_
            refine lv_iload_n hx hb dX12_taken_83 rfl (lv_at hl 3 rfl) ?_
            refine lv_icmp_eq (tgt := 95) hx hb dX12_taken_84 (by decide) (fun c_84_5412 => ?_) (fun c_84_5412 => ?_)
            · refine lv_iload_n hx hb dX12_taken_95 rfl (lv_at hl 0 rfl) ?_
              refine lv_iload_n hx hb dX12_taken_96 rfl (lv_at hl 3 rfl) ?_
              refine lv_icmp_ne (tgt := 109) hx hb dX12_taken_97 (by decide) (fun c9 => absurd (c_84_5412) c9) (fun _ => ?_)
              refine lv_aload_n hx hb dX12_taken_100 rfl (lv_at hl 1 rfl) ?_
              refine gf_X12_75 hC rfl hK hP 0 rfl rfl dX12_taken_101 ?_
              refine lv_iload_n hx hb dX12_taken_104 rfl (lv_at hl 2 rfl) ?_
              refine ald hC hK hP 3 rfl (vp_in_nI (by omega) (by omega)) (k := jt) (nI_clamp (by omega)) (v := fnsf jt) rfl dX12_taken_105 ?_
              refine lv_topi (fun x5413 ex5413 => ?_)
              refine lv_goto (tgt := 111) hx hb dX12_taken_106 (by decide) ?_
              exact RP (v := x5413) hC (trivial) rfl dX12_taken_111
            · refine lv_iload_n hx hb dX12_taken_87 rfl (lv_at hl 0 rfl) ?_
              refine pS hC hK hl (m_above1 l G) si_X12_348 rfl rfl (Nat.le_of_ble_eq_true rfl) ⟨Nat.le_of_ble_eq_true rfl, Nat.le_of_ble_eq_true rfl⟩ ⟨by first | exact Nat.le_of_ble_eq_true rfl | exact Nat.zero_le _, by first | exact Nat.le_of_ble_eq_true rfl | exact Nat.zero_le _⟩ dX12_taken_88 (fun r5414 hr5414 => ?_)
              obtain rfl := hr5414
              refine lv_istore_n (lv' := [(3, .int 0), (0, .ref h0), (1, .int (nI jt)), (2, .int x2)]) hx hb dX12_taken_91 rfl hl (by decide) rfl (fun ls hl => ?_)
              refine lv_goto (tgt := 78) hx hb dX12_taken_92 (by decide) ?_
              refine lv_iload_n hx hb dX12_taken_78 rfl (lv_at hl 0 rfl) ?_
              refine lv_if_lt (tgt := 95) hx hb dX12_taken_79 (by decide) (fun c9 => absurd c9 (by decide)) (fun _ => ?_)
              refine lv_iload_n hx hb dX12_taken_82 rfl (lv_at hl 0 rfl) ?_
              refine lv_iload_n hx hb dX12_taken_83 rfl (lv_at hl 3 rfl) ?_
              refine lv_icmp_eq (tgt := 95) hx hb dX12_taken_84 (by decide) (fun c_84_5416 => ?_) (fun c_84_5416 => ?_)
              · refine lv_iload_n hx hb dX12_taken_95 rfl (lv_at hl 0 rfl) ?_
                refine lv_iload_n hx hb dX12_taken_96 rfl (lv_at hl 3 rfl) ?_
                refine lv_icmp_ne (tgt := 109) hx hb dX12_taken_97 (by decide) (fun c9 => absurd (c_84_5416) c9) (fun _ => ?_)
                refine lv_aload_n hx hb dX12_taken_100 rfl (lv_at hl 1 rfl) ?_
                refine gf_X12_75 hC rfl hK hP 0 rfl rfl dX12_taken_101 ?_
                refine lv_iload_n hx hb dX12_taken_104 rfl (lv_at hl 2 rfl) ?_
                refine ald hC hK hP 3 rfl (vp_in_nI (by omega) (by omega)) (k := jt) (nI_clamp (by omega)) (v := fnsf jt) rfl dX12_taken_105 ?_
                refine lv_topi (fun x5417 ex5417 => ?_)
                refine lv_goto (tgt := 111) hx hb dX12_taken_106 (by decide) ?_
                exact RP (v := x5417) hC (trivial) rfl dX12_taken_111
              · refine lv_iload_n hx hb dX12_taken_87 rfl (lv_at hl 0 rfl) ?_
                refine pS hC hK hl (m_above0 l G) si_X12_348 rfl rfl (Nat.le_of_ble_eq_true rfl) ⟨Nat.le_of_ble_eq_true rfl, Nat.le_of_ble_eq_true rfl⟩ ⟨by first | exact Nat.le_of_ble_eq_true rfl | exact Nat.zero_le _, by first | exact Nat.le_of_ble_eq_true rfl | exact Nat.zero_le _⟩ dX12_taken_88 (fun r5418 hr5418 => ?_)
                obtain rfl := hr5418
                refine lv_istore_n (lv' := [(3, .int (-1)), (0, .ref h0), (1, .int (nI jt)), (2, .int x2)]) hx hb dX12_taken_91 rfl hl (by decide) rfl (fun ls hl => ?_)
                refine lv_goto (tgt := 78) hx hb dX12_taken_92 (by decide) ?_
                refine lv_iload_n hx hb dX12_taken_78 rfl (lv_at hl 0 rfl) ?_
                refine lv_if_lt (tgt := 95) hx hb dX12_taken_79 (by decide) (fun _ => ?_) (fun c9 => absurd (by decide) c9)
                refine lv_iload_n hx hb dX12_taken_95 rfl (lv_at hl 0 rfl) ?_
                refine lv_iload_n hx hb dX12_taken_96 rfl (lv_at hl 3 rfl) ?_
                refine lv_icmp_ne (tgt := 109) hx hb dX12_taken_97 (by decide) (fun c_97_5420 => ?_) (fun c_97_5420 => ?_)
                · refine lv_bipush (v := (-13)) hx hb dX12_taken_109 (by decide) ?_
                  exact RP (v := (-13)) hC (trivial) rfl dX12_taken_111
                · refine lv_aload_n hx hb dX12_taken_100 rfl (lv_at hl 1 rfl) ?_
                  refine gf_X12_75 hC rfl hK hP 0 rfl rfl dX12_taken_101 ?_
                  refine lv_iload_n hx hb dX12_taken_104 rfl (lv_at hl 2 rfl) ?_
                  refine ald hC hK hP 3 rfl (vp_in_nI (by omega) (by omega)) (k := jt) (nI_clamp (by omega)) (v := fnsf jt) rfl dX12_taken_105 ?_
                  refine lv_topi (fun x5421 ex5421 => ?_)
                  refine lv_goto (tgt := 111) hx hb dX12_taken_106 (by decide) ?_
                  exact RP (v := x5421) hC (trivial) rfl dX12_taken_111
        · refine lv_istore_n (lv' := [(3, .int 4), (0, .ref h0), (1, .int (nI jt)), (2, .int x2)]) hx hb dX12_taken_70 rfl hl (by decide) rfl (fun ls hl => ?_)
          refine lv_iload_n hx hb dX12_taken_71 rfl (lv_at hl 0 rfl) ?_
          refine lv_if_ge (tgt := 78) hx hb dX12_taken_72 (by decide) (fun _ => ?_) (fun c9 => absurd (by decide) c9)
          refine lv_iload_n hx hb dX12_taken_78 rfl (lv_at hl 0 rfl) ?_
          refine lv_if_lt (tgt := 95) hx hb dX12_taken_79 (by decide) (fun c9 => absurd c9 (by decide)) (fun _ => ?_)
          refine lv_iload_n hx hb dX12_taken_82 rfl (lv_at hl 0 rfl) ?_
          refine lv_iload_n hx hb dX12_taken_83 rfl (lv_at hl 3 rfl) ?_
          refine lv_icmp_eq (tgt := 95) hx hb dX12_taken_84 (by decide) (fun c_84_5422 => ?_) (fun c_84_5422 => ?_)
          · refine lv_iload_n hx hb dX12_taken_95 rfl (lv_at hl 0 rfl) ?_
            refine lv_iload_n hx hb dX12_taken_96 rfl (lv_at hl 3 rfl) ?_
            refine lv_icmp_ne (tgt := 109) hx hb dX12_taken_97 (by decide) (fun c9 => absurd (c_84_5422) c9) (fun _ => ?_)
            refine lv_aload_n hx hb dX12_taken_100 rfl (lv_at hl 1 rfl) ?_
            refine gf_X12_75 hC rfl hK hP 0 rfl rfl dX12_taken_101 ?_
            refine lv_iload_n hx hb dX12_taken_104 rfl (lv_at hl 2 rfl) ?_
            refine ald hC hK hP 3 rfl (vp_in_nI (by omega) (by omega)) (k := jt) (nI_clamp (by omega)) (v := fnsf jt) rfl dX12_taken_105 ?_
            refine lv_topi (fun x5423 ex5423 => ?_)
            refine lv_goto (tgt := 111) hx hb dX12_taken_106 (by decide) ?_
            exact RP (v := x5423) hC (trivial) rfl dX12_taken_111
          · refine lv_iload_n hx hb dX12_taken_87 rfl (lv_at hl 0 rfl) ?_
            refine pS hC hK hl (m_above4 l G) si_X12_348 rfl rfl (Nat.le_of_ble_eq_true rfl) ⟨Nat.le_of_ble_eq_true rfl, Nat.le_of_ble_eq_true rfl⟩ ⟨by first | exact Nat.le_of_ble_eq_true rfl | exact Nat.zero_le _, by first | exact Nat.le_of_ble_eq_true rfl | exact Nat.zero_le _⟩ dX12_taken_88 (fun r5424 hr5424 => ?_)
            obtain rfl := hr5424
            refine lv_istore_n (lv' := [(3, .int 0), (0, .ref h0), (1, .int (nI jt)), (2, .int x2)]) hx hb dX12_taken_91 rfl hl (by decide) rfl (fun ls hl => ?_)
            refine lv_goto (tgt := 78) hx hb dX12_taken_92 (by decide) ?_
            refine lv_iload_n hx hb dX12_taken_78 rfl (lv_at hl 0 rfl) ?_
            refine lv_if_lt (tgt := 95) hx hb dX12_taken_79 (by decide) (fun c9 => absurd c9 (by decide)) (fun _ => ?_)
            refine lv_iload_n hx hb dX12_taken_82 rfl (lv_at hl 0 rfl) ?_
            refine lv_iload_n hx hb dX12_taken_83 rfl (lv_at hl 3 rfl) ?_
            refine lv_icmp_eq (tgt := 95) hx hb dX12_taken_84 (by decide) (fun c_84_5426 => ?_) (fun c_84_5426 => ?_)
            · refine lv_iload_n hx hb dX12_taken_95 rfl (lv_at hl 0 rfl) ?_
              refine lv_iload_n hx hb dX12_taken_96 rfl (lv_at hl 3 rfl) ?_
              refine lv_icmp_ne (tgt := 109) hx hb dX12_taken_97 (by decide) (fun c9 => absurd (c_84_5426) c9) (fun _ => ?_)
              refine lv_aload_n hx hb dX12_taken_100 rfl (lv_at hl 1 rfl) ?_
              refine gf_X12_75 hC rfl hK hP 0 rfl rfl dX12_taken_101 ?_
              refine lv_iload_n hx hb dX12_taken_104 rfl (lv_at hl 2 rfl) ?_
              refine ald hC hK hP 3 rfl (vp_in_nI (by omega) (by omega)) (k := jt) (nI_clamp (by omega)) (v := fnsf jt) rfl dX12_taken_105 ?_
              refine lv_topi (fun x5427 ex5427 => ?_)
              refine lv_goto (tgt := 111) hx hb dX12_taken_106 (by decide) ?_
              exact RP (v := x5427) hC (trivial) rfl dX12_taken_111
            · refine lv_iload_n hx hb dX12_taken_87 rfl (lv_at hl 0 rfl) ?_
              refine pS hC hK hl (m_above0 l G) si_X12_348 rfl rfl (Nat.le_of_ble_eq_true rfl) ⟨Nat.le_of_ble_eq_true rfl, Nat.le_of_ble_eq_true rfl⟩ ⟨by first | exact Nat.le_of_ble_eq_true rfl | exact Nat.zero_le _, by first | exact Nat.le_of_ble_eq_true rfl | exact Nat.zero_le _⟩ dX12_taken_88 (fun r5428 hr5428 => ?_)
              obtain rfl := hr5428
              refine lv_istore_n (lv' := [(3, .int (-1)), (0, .ref h0), (1, .int (nI jt)), (2, .int x2)]) hx hb dX12_taken_91 rfl hl (by decide) rfl (fun ls hl => ?_)
              refine lv_goto (tgt := 78) hx hb dX12_taken_92 (by decide) ?_
              refine lv_iload_n hx hb dX12_taken_78 rfl (lv_at hl 0 rfl) ?_
              refine lv_if_lt (tgt := 95) hx hb dX12_taken_79 (by decide) (fun _ => ?_) (fun c9 => absurd (by decide) c9)
              refine lv_iload_n hx hb dX12_taken_95 rfl (lv_at hl 0 rfl) ?_
              refine lv_iload_n hx hb dX12_taken_96 rfl (lv_at hl 3 rfl) ?_
              refine lv_icmp_ne (tgt := 109) hx hb dX12_taken_97 (by decide) (fun c_97_5430 => ?_) (fun c_97_5430 => ?_)
              · refine lv_bipush (v := (-13)) hx hb dX12_taken_109 (by decide) ?_
                exact RP (v := (-13)) hC (trivial) rfl dX12_taken_111
              · refine lv_aload_n hx hb dX12_taken_100 rfl (lv_at hl 1 rfl) ?_
                refine gf_X12_75 hC rfl hK hP 0 rfl rfl dX12_taken_101 ?_
                refine lv_iload_n hx hb dX12_taken_104 rfl (lv_at hl 2 rfl) ?_
                refine ald hC hK hP 3 rfl (vp_in_nI (by omega) (by omega)) (k := jt) (nI_clamp (by omega)) (v := fnsf jt) rfl dX12_taken_105 ?_
                refine lv_topi (fun x5431 ex5431 => ?_)
                refine lv_goto (tgt := 111) hx hb dX12_taken_106 (by decide) ?_
                exact RP (v := x5431) hC (trivial) rfl dX12_taken_111
        · refine lv_istore_n (lv' := [(3, .int 5), (0, .ref h0), (1, .int (nI jt)), (2, .int x2)]) hx hb dX12_taken_70 rfl hl (by decide) rfl (fun ls hl => ?_)
          refine lv_iload_n hx hb dX12_taken_71 rfl (lv_at hl 0 rfl) ?_
          refine lv_if_ge (tgt := 78) hx hb dX12_taken_72 (by decide) (fun _ => ?_) (fun c9 => absurd (by decide) c9)
          refine lv_iload_n hx hb dX12_taken_78 rfl (lv_at hl 0 rfl) ?_
          refine lv_if_lt (tgt := 95) hx hb dX12_taken_79 (by decide) (fun c9 => absurd c9 (by decide)) (fun _ => ?_)
          refine lv_iload_n hx hb dX12_taken_82 rfl (lv_at hl 0 rfl) ?_
          refine lv_iload_n hx hb dX12_taken_83 rfl (lv_at hl 3 rfl) ?_
          refine lv_icmp_eq (tgt := 95) hx hb dX12_taken_84 (by decide) (fun c_84_5432 => ?_) (fun c_84_5432 => ?_)
          · refine lv_iload_n hx hb dX12_taken_95 rfl (lv_at hl 0 rfl) ?_
            refine lv_iload_n hx hb dX12_taken_96 rfl (lv_at hl 3 rfl) ?_
            refine lv_icmp_ne (tgt := 109) hx hb dX12_taken_97 (by decide) (fun c9 => absurd (c_84_5432) c9) (fun _ => ?_)
            refine lv_aload_n hx hb dX12_taken_100 rfl (lv_at hl 1 rfl) ?_
            refine gf_X12_75 hC rfl hK hP 0 rfl rfl dX12_taken_101 ?_
            refine lv_iload_n hx hb dX12_taken_104 rfl (lv_at hl 2 rfl) ?_
            refine ald hC hK hP 3 rfl (vp_in_nI (by omega) (by omega)) (k := jt) (nI_clamp (by omega)) (v := fnsf jt) rfl dX12_taken_105 ?_
            refine lv_topi (fun x5433 ex5433 => ?_)
            refine lv_goto (tgt := 111) hx hb dX12_taken_106 (by decide) ?_
            exact RP (v := x5433) hC (trivial) rfl dX12_taken_111
          · refine lv_iload_n hx hb dX12_taken_87 rfl (lv_at hl 0 rfl) ?_
            refine pS hC hK hl (m_above5 l G) si_X12_348 rfl rfl (Nat.le_of_ble_eq_true rfl) ⟨Nat.le_of_ble_eq_true rfl, Nat.le_of_ble_eq_true rfl⟩ ⟨by first | exact Nat.le_of_ble_eq_true rfl | exact Nat.zero_le _, by first | exact Nat.le_of_ble_eq_true rfl | exact Nat.zero_le _⟩ dX12_taken_88 (fun r5434 hr5434 => ?_)
            obtain rfl := hr5434
            refine lv_istore_n (lv' := [(3, .int 4), (0, .ref h0), (1, .int (nI jt)), (2, .int x2)]) hx hb dX12_taken_91 rfl hl (by decide) rfl (fun ls hl => ?_)
            refine lv_goto (tgt := 78) hx hb dX12_taken_92 (by decide) ?_
            refine lv_iload_n hx hb dX12_taken_78 rfl (lv_at hl 0 rfl) ?_
            refine lv_if_lt (tgt := 95) hx hb dX12_taken_79 (by decide) (fun c9 => absurd c9 (by decide)) (fun _ => ?_)
            refine lv_iload_n hx hb dX12_taken_82 rfl (lv_at hl 0 rfl) ?_
            refine lv_iload_n hx hb dX12_taken_83 rfl (lv_at hl 3 rfl) ?_
            refine lv_icmp_eq (tgt := 95) hx hb dX12_taken_84 (by decide) (fun c_84_5436 => ?_) (fun c_84_5436 => ?_)
            · refine lv_iload_n hx hb dX12_taken_95 rfl (lv_at hl 0 rfl) ?_
              refine lv_iload_n hx hb dX12_taken_96 rfl (lv_at hl 3 rfl) ?_
              refine lv_icmp_ne (tgt := 109) hx hb dX12_taken_97 (by decide) (fun c9 => absurd (c_84_5436) c9) (fun _ => ?_)
              refine lv_aload_n hx hb dX12_taken_100 rfl (lv_at hl 1 rfl) ?_
              refine gf_X12_75 hC rfl hK hP 0 rfl rfl dX12_taken_101 ?_
              refine lv_iload_n hx hb dX12_taken_104 rfl (lv_at hl 2 rfl) ?_
              refine ald hC hK hP 3 rfl (vp_in_nI (by omega) (by omega)) (k := jt) (nI_clamp (by omega)) (v := fnsf jt) rfl dX12_taken_105 ?_
              refine lv_topi (fun x5437 ex5437 => ?_)
              refine lv_goto (tgt := 111) hx hb dX12_taken_106 (by decide) ?_
              exact RP (v := x5437) hC (trivial) rfl dX12_taken_111
            · refine lv_iload_n hx hb dX12_taken_87 rfl (lv_at hl 0 rfl) ?_
              refine pS hC hK hl (m_above4 l G) si_X12_348 rfl rfl (Nat.le_of_ble_eq_true rfl) ⟨Nat.le_of_ble_eq_true rfl, Nat.le_of_ble_eq_true rfl⟩ ⟨by first | exact Nat.le_of_ble_eq_true rfl | exact Nat.zero_le _, by first | exact Nat.le_of_ble_eq_true rfl | exact Nat.zero_le _⟩ dX12_taken_88 (fun r5438 hr5438 => ?_)
              obtain rfl := hr5438
              refine lv_istore_n (lv' := [(3, .int 0), (0, .ref h0), (1, .int (nI jt)), (2, .int x2)]) hx hb dX12_taken_91 rfl hl (by decide) rfl (fun ls hl => ?_)
              refine lv_goto (tgt := 78) hx hb dX12_taken_92 (by decide) ?_
              refine lv_iload_n hx hb dX12_taken_78 rfl (lv_at hl 0 rfl) ?_
              refine lv_if_lt (tgt := 95) hx hb dX12_taken_79 (by decide) (fun c9 => absurd c9 (by decide)) (fun _ => ?_)
              refine lv_iload_n hx hb dX12_taken_82 rfl (lv_at hl 0 rfl) ?_
              refine lv_iload_n hx hb dX12_taken_83 rfl (lv_at hl 3 rfl) ?_
              refine lv_icmp_eq (tgt := 95) hx hb dX12_taken_84 (by decide) (fun c_84_5440 => ?_) (fun c_84_5440 => ?_)
              · refine lv_iload_n hx hb dX12_taken_95 rfl (lv_at hl 0 rfl) ?_
                refine lv_iload_n hx hb dX12_taken_96 rfl (lv_at hl 3 rfl) ?_
                refine lv_icmp_ne (tgt := 109) hx hb dX12_taken_97 (by decide) (fun c9 => absurd (c_84_5440) c9) (fun _ => ?_)
                refine lv_aload_n hx hb dX12_taken_100 rfl (lv_at hl 1 rfl) ?_
                refine gf_X12_75 hC rfl hK hP 0 rfl rfl dX12_taken_101 ?_
                refine lv_iload_n hx hb dX12_taken_104 rfl (lv_at hl 2 rfl) ?_
                refine ald hC hK hP 3 rfl (vp_in_nI (by omega) (by omega)) (k := jt) (nI_clamp (by omega)) (v := fnsf jt) rfl dX12_taken_105 ?_
                refine lv_topi (fun x5441 ex5441 => ?_)
                refine lv_goto (tgt := 111) hx hb dX12_taken_106 (by decide) ?_
                exact RP (v := x5441) hC (trivial) rfl dX12_taken_111
              · refine lv_iload_n hx hb dX12_taken_87 rfl (lv_at hl 0 rfl) ?_
                refine pS hC hK hl (m_above0 l G) si_X12_348 rfl rfl (Nat.le_of_ble_eq_true rfl) ⟨Nat.le_of_ble_eq_true rfl, Nat.le_of_ble_eq_true rfl⟩ ⟨by first | exact Nat.le_of_ble_eq_true rfl | exact Nat.zero_le _, by first | exact Nat.le_of_ble_eq_true rfl | exact Nat.zero_le _⟩ dX12_taken_88 (fun r5442 hr5442 => ?_)
                obtain rfl := hr5442
                refine lv_istore_n (lv' := [(3, .int (-1)), (0, .ref h0), (1, .int (nI jt)), (2, .int x2)]) hx hb dX12_taken_91 rfl hl (by decide) rfl (fun ls hl => ?_)
                refine lv_goto (tgt := 78) hx hb dX12_taken_92 (by decide) ?_
                refine lv_iload_n hx hb dX12_taken_78 rfl (lv_at hl 0 rfl) ?_
                refine lv_if_lt (tgt := 95) hx hb dX12_taken_79 (by decide) (fun _ => ?_) (fun c9 => absurd (by decide) c9)
                refine lv_iload_n hx hb dX12_taken_95 rfl (lv_at hl 0 rfl) ?_
                refine lv_iload_n hx hb dX12_taken_96 rfl (lv_at hl 3 rfl) ?_
                refine lv_icmp_ne (tgt := 109) hx hb dX12_taken_97 (by decide) (fun c_97_5444 => ?_) (fun c_97_5444 => ?_)
                · refine lv_bipush (v := (-13)) hx hb dX12_taken_109 (by decide) ?_
                  exact RP (v := (-13)) hC (trivial) rfl dX12_taken_111
                · refine lv_aload_n hx hb dX12_taken_100 rfl (lv_at hl 1 rfl) ?_
                  refine gf_X12_75 hC rfl hK hP 0 rfl rfl dX12_taken_101 ?_
                  refine lv_iload_n hx hb dX12_taken_104 rfl (lv_at hl 2 rfl) ?_
                  refine ald hC hK hP 3 rfl (vp_in_nI (by omega) (by omega)) (k := jt) (nI_clamp (by omega)) (v := fnsf jt) rfl dX12_taken_105 ?_
                  refine lv_topi (fun x5445 ex5445 => ?_)
                  refine lv_goto (tgt := 111) hx hb dX12_taken_106 (by decide) ?_
                  exact RP (v := x5445) hC (trivial) rfl dX12_taken_111
        · refine lv_istore_n (lv' := [(3, .int 6), (0, .ref h0), (1, .int (nI jt)), (2, .int x2)]) hx hb dX12_taken_70 rfl hl (by decide) rfl (fun ls hl => ?_)
          refine lv_iload_n hx hb dX12_taken_71 rfl (lv_at hl 0 rfl) ?_
          refine lv_if_ge (tgt := 78) hx hb dX12_taken_72 (by decide) (fun _ => ?_) (fun c9 => absurd (by decide) c9)
          refine lv_iload_n hx hb dX12_taken_78 rfl (lv_at hl 0 rfl) ?_
          refine lv_if_lt (tgt := 95) hx hb dX12_taken_79 (by decide) (fun c9 => absurd c9 (by decide)) (fun _ => ?_)
          refine lv_iload_n hx hb dX12_taken_82 rfl (lv_at hl 0 rfl) ?_
          refine lv_iload_n hx hb dX12_taken_83 rfl (lv_at hl 3 rfl) ?_
          refine lv_icmp_eq (tgt := 95) hx hb dX12_taken_84 (by decide) (fun c_84_5446 => ?_) (fun c_84_5446 => ?_)
          · refine lv_iload_n hx hb dX12_taken_95 rfl (lv_at hl 0 rfl) ?_
            refine lv_iload_n hx hb dX12_taken_96 rfl (lv_at hl 3 rfl) ?_
            refine lv_icmp_ne (tgt := 109) hx hb dX12_taken_97 (by decide) (fun c9 => absurd (c_84_5446) c9) (fun _ => ?_)
            refine lv_aload_n hx hb dX12_taken_100 rfl (lv_at hl 1 rfl) ?_
            refine gf_X12_75 hC rfl hK hP 0 rfl rfl dX12_taken_101 ?_
            refine lv_iload_n hx hb dX12_taken_104 rfl (lv_at hl 2 rfl) ?_
            refine ald hC hK hP 3 rfl (vp_in_nI (by omega) (by omega)) (k := jt) (nI_clamp (by omega)) (v := fnsf jt) rfl dX12_taken_105 ?_
            refine lv_topi (fun x5447 ex5447 => ?_)
            refine lv_goto (tgt := 111) hx hb dX12_taken_106 (by decide) ?_
            exact RP (v := x5447) hC (trivial) rfl dX12_taken_111
          · refine lv_iload_n hx hb dX12_taken_87 rfl (lv_at hl 0 rfl) ?_
            refine pS hC hK hl (m_above6 l G) si_X12_348 rfl rfl (Nat.le_of_ble_eq_true rfl) ⟨Nat.le_of_ble_eq_true rfl, Nat.le_of_ble_eq_true rfl⟩ ⟨by first | exact Nat.le_of_ble_eq_true rfl | exact Nat.zero_le _, by first | exact Nat.le_of_ble_eq_true rfl | exact Nat.zero_le _⟩ dX12_taken_88 (fun r5448 hr5448 => ?_)
            obtain rfl := hr5448
            refine lv_istore_n (lv' := [(3, .int 0), (0, .ref h0), (1, .int (nI jt)), (2, .int x2)]) hx hb dX12_taken_91 rfl hl (by decide) rfl (fun ls hl => ?_)
            refine lv_goto (tgt := 78) hx hb dX12_taken_92 (by decide) ?_
            refine lv_iload_n hx hb dX12_taken_78 rfl (lv_at hl 0 rfl) ?_
            refine lv_if_lt (tgt := 95) hx hb dX12_taken_79 (by decide) (fun c9 => absurd c9 (by decide)) (fun _ => ?_)
            refine lv_iload_n hx hb dX12_taken_82 rfl (lv_at hl 0 rfl) ?_
            refine lv_iload_n hx hb dX12_taken_83 rfl (lv_at hl 3 rfl) ?_
            refine lv_icmp_eq (tgt := 95) hx hb dX12_taken_84 (by decide) (fun c_84_5450 => ?_) (fun c_84_5450 => ?_)
            · refine lv_iload_n hx hb dX12_taken_95 rfl (lv_at hl 0 rfl) ?_
              refine lv_iload_n hx hb dX12_taken_96 rfl (lv_at hl 3 rfl) ?_
              refine lv_icmp_ne (tgt := 109) hx hb dX12_taken_97 (by decide) (fun c9 => absurd (c_84_5450) c9) (fun _ => ?_)
              refine lv_aload_n hx hb dX12_taken_100 rfl (lv_at hl 1 rfl) ?_
              refine gf_X12_75 hC rfl hK hP 0 rfl rfl dX12_taken_101 ?_
              refine lv_iload_n hx hb dX12_taken_104 rfl (lv_at hl 2 rfl) ?_
              refine ald hC hK hP 3 rfl (vp_in_nI (by omega) (by omega)) (k := jt) (nI_clamp (by omega)) (v := fnsf jt) rfl dX12_taken_105 ?_
              refine lv_topi (fun x5451 ex5451 => ?_)
              refine lv_goto (tgt := 111) hx hb dX12_taken_106 (by decide) ?_
              exact RP (v := x5451) hC (trivial) rfl dX12_taken_111
            · refine lv_iload_n hx hb dX12_taken_87 rfl (lv_at hl 0 rfl) ?_
              refine pS hC hK hl (m_above0 l G) si_X12_348 rfl rfl (Nat.le_of_ble_eq_true rfl) ⟨Nat.le_of_ble_eq_true rfl, Nat.le_of_ble_eq_true rfl⟩ ⟨by first | exact Nat.le_of_ble_eq_true rfl | exact Nat.zero_le _, by first | exact Nat.le_of_ble_eq_true rfl | exact Nat.zero_le _⟩ dX12_taken_88 (fun r5452 hr5452 => ?_)
              obtain rfl := hr5452
              refine lv_istore_n (lv' := [(3, .int (-1)), (0, .ref h0), (1, .int (nI jt)), (2, .int x2)]) hx hb dX12_taken_91 rfl hl (by decide) rfl (fun ls hl => ?_)
              refine lv_goto (tgt := 78) hx hb dX12_taken_92 (by decide) ?_
              refine lv_iload_n hx hb dX12_taken_78 rfl (lv_at hl 0 rfl) ?_
              refine lv_if_lt (tgt := 95) hx hb dX12_taken_79 (by decide) (fun _ => ?_) (fun c9 => absurd (by decide) c9)
              refine lv_iload_n hx hb dX12_taken_95 rfl (lv_at hl 0 rfl) ?_
              refine lv_iload_n hx hb dX12_taken_96 rfl (lv_at hl 3 rfl) ?_
              refine lv_icmp_ne (tgt := 109) hx hb dX12_taken_97 (by decide) (fun c_97_5454 => ?_) (fun c_97_5454 => ?_)
              · refine lv_bipush (v := (-13)) hx hb dX12_taken_109 (by decide) ?_
                exact RP (v := (-13)) hC (trivial) rfl dX12_taken_111
              · refine lv_aload_n hx hb dX12_taken_100 rfl (lv_at hl 1 rfl) ?_
                refine gf_X12_75 hC rfl hK hP 0 rfl rfl dX12_taken_101 ?_
                refine lv_iload_n hx hb dX12_taken_104 rfl (lv_at hl 2 rfl) ?_
                refine ald hC hK hP 3 rfl (vp_in_nI (by omega) (by omega)) (k := jt) (nI_clamp (by omega)) (v := fnsf jt) rfl dX12_taken_105 ?_
                refine lv_topi (fun x5455 ex5455 => ?_)
                refine lv_goto (tgt := 111) hx hb dX12_taken_106 (by decide) ?_
                exact RP (v := x5455) hC (trivial) rfl dX12_taken_111
      · refine lv_iload_n hx hb dX12_taken_40 rfl (lv_at hl 2 rfl) ?_
        refine lv_bipush (v := 10) hx hb dX12_taken_41 (by decide) ?_
        refine lv_isub hx hb dX12_taken_43 ?_
        refine lv_aload_n hx hb dX12_taken_44 rfl (lv_at hl 0 rfl) ?_
        refine gf_X12_75 hC rfl hK hP 0 rfl rfl dX12_taken_45 ?_
        refine lv_iload_n hx hb dX12_taken_48 rfl (lv_at hl 1 rfl) ?_
        refine ald hC hK hP 3 rfl (vp_in_nI (by omega) (by omega)) (k := jt) (nI_clamp (by omega)) (v := fnsf jt) rfl dX12_taken_49 ?_
        refine lv_topi (fun x5456 ex5456 => ?_)
        refine lv_icmp_ne (tgt := 62) hx hb dX12_taken_50 (by decide) (fun c_50_5457 => ?_) (fun c_50_5457 => ?_)
        · refine lv_bipush (v := (-13)) hx hb dX12_taken_62 (by decide) ?_
          exact RP (v := (-13)) hC (trivial) rfl dX12_taken_64
        · refine lv_aload_n hx hb dX12_taken_53 rfl (lv_at hl 0 rfl) ?_
          refine gf_X12_78 hC rfl hK hP 0 rfl rfl dX12_taken_54 ?_
          refine lv_iload_n hx hb dX12_taken_57 rfl (lv_at hl 1 rfl) ?_
          refine ald hC hK hP 4 rfl (vp_in_nI (by omega) (by omega)) (k := jt) (nI_clamp (by omega)) (v := fnss jt) rfl dX12_taken_58 ?_
          refine lv_topi (fun x5458 ex5458 => ?_)
          refine lv_goto (tgt := 64) hx hb dX12_taken_59 (by decide) ?_
          exact RP (v := x5458) hC (trivial) rfl dX12_taken_64
    · refine lv_if_ne (tgt := 30) hx hb dX12_taken_14 (by decide) (fun c9 => absurd (by decide) c9) (fun _ => ?_)
      refine lv_iload_n hx hb dX12_taken_17 rfl (lv_at hl 2 rfl) ?_
      refine lv_bipush (v := 10) hx hb dX12_taken_18 (by decide) ?_
      refine lv_bipush (v := 14) hx hb dX12_taken_20 (by decide) ?_
      refine pS hC hK hl (m_within l G x2 10 14) si_X12_84 rfl rfl (Nat.le_of_ble_eq_true rfl) ⟨Nat.le_of_ble_eq_true rfl, Nat.le_of_ble_eq_true rfl⟩ ⟨by first | exact Nat.le_of_ble_eq_true rfl | exact Nat.zero_le _, by first | exact Nat.le_of_ble_eq_true rfl | exact Nat.zero_le _⟩ dX12_taken_22 (fun r5459 hr5459 => ?_)
      rcases hr5459 with ⟨rfl, a5460⟩ | ⟨rfl, a5460⟩
      · refine lv_if_ne (tgt := 30) hx hb dX12_taken_25 (by decide) (fun _ => ?_) (fun c9 => absurd c9 (by decide))
        obtain ⟨jt, hjt, rfl⟩ := Wi_nat (N := 3) (by decide) a5381
        refine lv_aload_n hx hb dX12_taken_30 rfl (lv_at hl 0 rfl) ?_
        refine gf_X12_72 hC rfl hK hP 0 rfl rfl dX12_taken_31 ?_
        refine lv_iload_n hx hb dX12_taken_34 rfl (lv_at hl 1 rfl) ?_
        refine ald hC hK hP 2 rfl (vp_in_nI (by omega) (by omega)) (k := jt) (nI_clamp (by omega)) (v := fnsh jt) rfl dX12_taken_35 ?_
        refine lv_topi (fun x5461 ex5461 => ?_)
        refine lv_iconst (v := 4) hx hb dX12_taken_36 (by decide) ?_
        refine lv_icmp_ne (tgt := 65) hx hb dX12_taken_37 (by decide) (fun c_37_5462 => ?_) (fun c_37_5462 => ?_)
        · refine lv_aload_n hx hb dX12_taken_65 rfl (lv_at hl 0 rfl) ?_
          refine lv_iload_n hx hb dX12_taken_66 rfl (lv_at hl 1 rfl) ?_
          refine pV hC hK hl hP hD (m_kindOn l G h0 jt nw nk mhasKept nt mtaped nr mrowMany mroundOf mroundFrom mouts nm mfromHour mtoHour ns mfrom mto msort misFault mdeep mcoded mlines nl nc nF np ntr nb mbestCost nso nsi nit nsh nsf nss nrc mtraced mdealer mnumber mwhose msize misParted fnw fnsh fnsf (by omega) (hN)) si_X12_345 [0, 1, 2, 3] rfl rfl (by decide) rfl rfl rfl rfl rfl (Nat.le_of_ble_eq_true rfl) ⟨Nat.le_of_ble_eq_true rfl, Nat.le_of_ble_eq_true rfl⟩ ⟨by first | exact Nat.le_of_ble_eq_true rfl | exact Nat.zero_le _, by first | exact Nat.le_of_ble_eq_true rfl | exact Nat.zero_le _⟩ dX12_taken_67 (fun r5463 hr5463 => ?_)
          rcases hr5463 with rfl | ⟨rfl, a5464⟩ | ⟨rfl, a5464⟩ | ⟨rfl, a5464⟩ | ⟨rfl, a5464⟩ | ⟨rfl, a5464⟩ | ⟨rfl, a5464⟩
          · refine lv_istore_n (lv' := [(3, .int (-1)), (0, .ref h0), (1, .int (nI jt)), (2, .int x2)]) hx hb dX12_taken_70 rfl hl (by decide) rfl (fun ls hl => ?_)
            refine lv_iload_n hx hb dX12_taken_71 rfl (lv_at hl 0 rfl) ?_
            refine lv_if_ge (tgt := 78) hx hb dX12_taken_72 (by decide) (fun c9 => absurd c9 (by decide)) (fun _ => ?_)
            refine lv_bipush (v := (-11)) hx hb dX12_taken_75 (by decide) ?_
            exact RP (v := (-11)) hC (trivial) rfl dX12_taken_77
          · refine lv_istore_n (lv' := [(3, .int 1), (0, .ref h0), (1, .int (nI jt)), (2, .int x2)]) hx hb dX12_taken_70 rfl hl (by decide) rfl (fun ls hl => ?_)
            refine lv_iload_n hx hb dX12_taken_71 rfl (lv_at hl 0 rfl) ?_
            refine lv_if_ge (tgt := 78) hx hb dX12_taken_72 (by decide) (fun _ => ?_) (fun c9 => absurd (by decide) c9)
            refine lv_iload_n hx hb dX12_taken_78 rfl (lv_at hl 0 rfl) ?_
            refine lv_if_lt (tgt := 95) hx hb dX12_taken_79 (by decide) (fun c9 => absurd c9 (by decide)) (fun _ => ?_)
            refine lv_iload_n hx hb dX12_taken_82 rfl (lv_at hl 0 rfl) ?_
            refine lv_iload_n hx hb dX12_taken_83 rfl (lv_at hl 3 rfl) ?_
            refine lv_icmp_eq (tgt := 95) hx hb dX12_taken_84 (by decide) (fun c_84_5465 => ?_) (fun c_84_5465 => ?_)
            · refine lv_iload_n hx hb dX12_taken_95 rfl (lv_at hl 0 rfl) ?_
              refine lv_iload_n hx hb dX12_taken_96 rfl (lv_at hl 3 rfl) ?_
              refine lv_icmp_ne (tgt := 109) hx hb dX12_taken_97 (by decide) (fun c9 => absurd (c_84_5465) c9) (fun _ => ?_)
              refine lv_aload_n hx hb dX12_taken_100 rfl (lv_at hl 1 rfl) ?_
              refine gf_X12_75 hC rfl hK hP 0 rfl rfl dX12_taken_101 ?_
              refine lv_iload_n hx hb dX12_taken_104 rfl (lv_at hl 2 rfl) ?_
              refine ald hC hK hP 3 rfl (vp_in_nI (by omega) (by omega)) (k := jt) (nI_clamp (by omega)) (v := fnsf jt) rfl dX12_taken_105 ?_
              refine lv_topi (fun x5466 ex5466 => ?_)
              refine lv_goto (tgt := 111) hx hb dX12_taken_106 (by decide) ?_
              exact RP (v := x5466) hC (trivial) rfl dX12_taken_111
            · refine lv_iload_n hx hb dX12_taken_87 rfl (lv_at hl 0 rfl) ?_
              refine pS hC hK hl (m_above1 l G) si_X12_348 rfl rfl (Nat.le_of_ble_eq_true rfl) ⟨Nat.le_of_ble_eq_true rfl, Nat.le_of_ble_eq_true rfl⟩ ⟨by first | exact Nat.le_of_ble_eq_true rfl | exact Nat.zero_le _, by first | exact Nat.le_of_ble_eq_true rfl | exact Nat.zero_le _⟩ dX12_taken_88 (fun r5467 hr5467 => ?_)
              obtain rfl := hr5467
              refine lv_istore_n (lv' := [(3, .int 0), (0, .ref h0), (1, .int (nI jt)), (2, .int x2)]) hx hb dX12_taken_91 rfl hl (by decide) rfl (fun ls hl => ?_)
              refine lv_goto (tgt := 78) hx hb dX12_taken_92 (by decide) ?_
              refine lv_iload_n hx hb dX12_taken_78 rfl (lv_at hl 0 rfl) ?_
              refine lv_if_lt (tgt := 95) hx hb dX12_taken_79 (by decide) (fun c9 => absurd c9 (by decide)) (fun _ => ?_)
              refine lv_iload_n hx hb dX12_taken_82 rfl (lv_at hl 0 rfl) ?_
              refine lv_iload_n hx hb dX12_taken_83 rfl (lv_at hl 3 rfl) ?_
              refine lv_icmp_eq (tgt := 95) hx hb dX12_taken_84 (by decide) (fun c_84_5469 => ?_) (fun c_84_5469 => ?_)
              · refine lv_iload_n hx hb dX12_taken_95 rfl (lv_at hl 0 rfl) ?_
                refine lv_iload_n hx hb dX12_taken_96 rfl (lv_at hl 3 rfl) ?_
                refine lv_icmp_ne (tgt := 109) hx hb dX12_taken_97 (by decide) (fun c9 => absurd (c_84_5469) c9) (fun _ => ?_)
                refine lv_aload_n hx hb dX12_taken_100 rfl (lv_at hl 1 rfl) ?_
                refine gf_X12_75 hC rfl hK hP 0 rfl rfl dX12_taken_101 ?_
                refine lv_iload_n hx hb dX12_taken_104 rfl (lv_at hl 2 rfl) ?_
                refine ald hC hK hP 3 rfl (vp_in_nI (by omega) (by omega)) (k := jt) (nI_clamp (by omega)) (v := fnsf jt) rfl dX12_taken_105 ?_
                refine lv_topi (fun x5470 ex5470 => ?_)
                refine lv_goto (tgt := 111) hx hb dX12_taken_106 (by decide) ?_
                exact RP (v := x5470) hC (trivial) rfl dX12_taken_111
              · refine lv_iload_n hx hb dX12_taken_87 rfl (lv_at hl 0 rfl) ?_
                refine pS hC hK hl (m_above0 l G) si_X12_348 rfl rfl (Nat.le_of_ble_eq_true rfl) ⟨Nat.le_of_ble_eq_true rfl, Nat.le_of_ble_eq_true rfl⟩ ⟨by first | exact Nat.le_of_ble_eq_true rfl | exact Nat.zero_le _, by first | exact Nat.le_of_ble_eq_true rfl | exact Nat.zero_le _⟩ dX12_taken_88 (fun r5471 hr5471 => ?_)
                obtain rfl := hr5471
                refine lv_istore_n (lv' := [(3, .int (-1)), (0, .ref h0), (1, .int (nI jt)), (2, .int x2)]) hx hb dX12_taken_91 rfl hl (by decide) rfl (fun ls hl => ?_)
                refine lv_goto (tgt := 78) hx hb dX12_taken_92 (by decide) ?_
                refine lv_iload_n hx hb dX12_taken_78 rfl (lv_at hl 0 rfl) ?_
                refine lv_if_lt (tgt := 95) hx hb dX12_taken_79 (by decide) (fun _ => ?_) (fun c9 => absurd (by decide) c9)
                refine lv_iload_n hx hb dX12_taken_95 rfl (lv_at hl 0 rfl) ?_
                refine lv_iload_n hx hb dX12_taken_96 rfl (lv_at hl 3 rfl) ?_
                refine lv_icmp_ne (tgt := 109) hx hb dX12_taken_97 (by decide) (fun c_97_5473 => ?_) (fun c_97_5473 => ?_)
                · refine lv_bipush (v := (-13)) hx hb dX12_taken_109 (by decide) ?_
                  exact RP (v := (-13)) hC (trivial) rfl dX12_taken_111
                · refine lv_aload_n hx hb dX12_taken_100 rfl (lv_at hl 1 rfl) ?_
                  refine gf_X12_75 hC rfl hK hP 0 rfl rfl dX12_taken_101 ?_
                  refine lv_iload_n hx hb dX12_taken_104 rfl (lv_at hl 2 rfl) ?_
                  refine ald hC hK hP 3 rfl (vp_in_nI (by omega) (by omega)) (k := jt) (nI_clamp (by omega)) (v := fnsf jt) rfl dX12_taken_105 ?_
                  refine lv_topi (fun x5474 ex5474 => ?_)
                  refine lv_goto (tgt := 111) hx hb dX12_taken_106 (by decide) ?_
                  exact RP (v := x5474) hC (trivial) rfl dX12_taken_111
          · refine lv_istore_n (lv' := [(3, .int 2), (0, .ref h0), (1, .int (nI jt)), (2, .int x2)]) hx hb dX12_taken_70 rfl hl (by decide) rfl (fun ls hl => ?_)
            refine lv_iload_n hx hb dX12_taken_71 rfl (lv_at hl 0 rfl) ?_
            refine lv_if_ge (tgt := 78) hx hb dX12_taken_72 (by decide) (fun _ => ?_) (fun c9 => absurd (by decide) c9)
            refine lv_iload_n hx hb dX12_taken_78 rfl (lv_at hl 0 rfl) ?_
            refine lv_if_lt (tgt := 95) hx hb dX12_taken_79 (by decide) (fun c9 => absurd c9 (by decide)) (fun _ => ?_)
            refine lv_iload_n hx hb dX12_taken_82 rfl (lv_at hl 0 rfl) ?_
            refine lv_iload_n hx hb dX12_taken_83 rfl (lv_at hl 3 rfl) ?_
            refine lv_icmp_eq (tgt := 95) hx hb dX12_taken_84 (by decide) (fun c_84_5475 => ?_) (fun c_84_5475 => ?_)
            · refine lv_iload_n hx hb dX12_taken_95 rfl (lv_at hl 0 rfl) ?_
              refine lv_iload_n hx hb dX12_taken_96 rfl (lv_at hl 3 rfl) ?_
              refine lv_icmp_ne (tgt := 109) hx hb dX12_taken_97 (by decide) (fun c9 => absurd (c_84_5475) c9) (fun _ => ?_)
              refine lv_aload_n hx hb dX12_taken_100 rfl (lv_at hl 1 rfl) ?_
              refine gf_X12_75 hC rfl hK hP 0 rfl rfl dX12_taken_101 ?_
              refine lv_iload_n hx hb dX12_taken_104 rfl (lv_at hl 2 rfl) ?_
              refine ald hC hK hP 3 rfl (vp_in_nI (by omega) (by omega)) (k := jt) (nI_clamp (by omega)) (v := fnsf jt) rfl dX12_taken_105 ?_
              refine lv_topi (fun x5476 ex5476 => ?_)
              refine lv_goto (tgt := 111) hx hb dX12_taken_106 (by decide) ?_
              exact RP (v := x5476) hC (trivial) rfl dX12_taken_111
            · refine lv_iload_n hx hb dX12_taken_87 rfl (lv_at hl 0 rfl) ?_
              refine pS hC hK hl (m_above2 l G) si_X12_348 rfl rfl (Nat.le_of_ble_eq_true rfl) ⟨Nat.le_of_ble_eq_true rfl, Nat.le_of_ble_eq_true rfl⟩ ⟨by first | exact Nat.le_of_ble_eq_true rfl | exact Nat.zero_le _, by first | exact Nat.le_of_ble_eq_true rfl | exact Nat.zero_le _⟩ dX12_taken_88 (fun r5477 hr5477 => ?_)
              obtain rfl := hr5477
              refine lv_istore_n (lv' := [(3, .int 0), (0, .ref h0), (1, .int (nI jt)), (2, .int x2)]) hx hb dX12_taken_91 rfl hl (by decide) rfl (fun ls hl => ?_)
              refine lv_goto (tgt := 78) hx hb dX12_taken_92 (by decide) ?_
              refine lv_iload_n hx hb dX12_taken_78 rfl (lv_at hl 0 rfl) ?_
              refine lv_if_lt (tgt := 95) hx hb dX12_taken_79 (by decide) (fun c9 => absurd c9 (by decide)) (fun _ => ?_)
              refine lv_iload_n hx hb dX12_taken_82 rfl (lv_at hl 0 rfl) ?_
              refine lv_iload_n hx hb dX12_taken_83 rfl (lv_at hl 3 rfl) ?_
              refine lv_icmp_eq (tgt := 95) hx hb dX12_taken_84 (by decide) (fun c_84_5479 => ?_) (fun c_84_5479 => ?_)
              · refine lv_iload_n hx hb dX12_taken_95 rfl (lv_at hl 0 rfl) ?_
                refine lv_iload_n hx hb dX12_taken_96 rfl (lv_at hl 3 rfl) ?_
                refine lv_icmp_ne (tgt := 109) hx hb dX12_taken_97 (by decide) (fun c9 => absurd (c_84_5479) c9) (fun _ => ?_)
                refine lv_aload_n hx hb dX12_taken_100 rfl (lv_at hl 1 rfl) ?_
                refine gf_X12_75 hC rfl hK hP 0 rfl rfl dX12_taken_101 ?_
                refine lv_iload_n hx hb dX12_taken_104 rfl (lv_at hl 2 rfl) ?_
                refine ald hC hK hP 3 rfl (vp_in_nI (by omega) (by omega)) (k := jt) (nI_clamp (by omega)) (v := fnsf jt) rfl dX12_taken_105 ?_
                refine lv_topi (fun x5480 ex5480 => ?_)
                refine lv_goto (tgt := 111) hx hb dX12_taken_106 (by decide) ?_
                exact RP (v := x5480) hC (trivial) rfl dX12_taken_111
              · refine lv_iload_n hx hb dX12_taken_87 rfl (lv_at hl 0 rfl) ?_
                refine pS hC hK hl (m_above0 l G) si_X12_348 rfl rfl (Nat.le_of_ble_eq_true rfl) ⟨Nat.le_of_ble_eq_true rfl, Nat.le_of_ble_eq_true rfl⟩ ⟨by first | exact Nat.le_of_ble_eq_true rfl | exact Nat.zero_le _, by first | exact Nat.le_of_ble_eq_true rfl | exact Nat.zero_le _⟩ dX12_taken_88 (fun r5481 hr5481 => ?_)
                obtain rfl := hr5481
                refine lv_istore_n (lv' := [(3, .int (-1)), (0, .ref h0), (1, .int (nI jt)), (2, .int x2)]) hx hb dX12_taken_91 rfl hl (by decide) rfl (fun ls hl => ?_)
                refine lv_goto (tgt := 78) hx hb dX12_taken_92 (by decide) ?_
                refine lv_iload_n hx hb dX12_taken_78 rfl (lv_at hl 0 rfl) ?_
                refine lv_if_lt (tgt := 95) hx hb dX12_taken_79 (by decide) (fun _ => ?_) (fun c9 => absurd (by decide) c9)
                refine lv_iload_n hx hb dX12_taken_95 rfl (lv_at hl 0 rfl) ?_
                refine lv_iload_n hx hb dX12_taken_96 rfl (lv_at hl 3 rfl) ?_
                refine lv_icmp_ne (tgt := 109) hx hb dX12_taken_97 (by decide) (fun c_97_5483 => ?_) (fun c_97_5483 => ?_)
                · refine lv_bipush (v := (-13)) hx hb dX12_taken_109 (by decide) ?_
                  exact RP (v := (-13)) hC (trivial) rfl dX12_taken_111
                · refine lv_aload_n hx hb dX12_taken_100 rfl (lv_at hl 1 rfl) ?_
                  refine gf_X12_75 hC rfl hK hP 0 rfl rfl dX12_taken_101 ?_
                  refine lv_iload_n hx hb dX12_taken_104 rfl (lv_at hl 2 rfl) ?_
                  refine ald hC hK hP 3 rfl (vp_in_nI (by omega) (by omega)) (k := jt) (nI_clamp (by omega)) (v := fnsf jt) rfl dX12_taken_105 ?_
                  refine lv_topi (fun x5484 ex5484 => ?_)
                  refine lv_goto (tgt := 111) hx hb dX12_taken_106 (by decide) ?_
                  exact RP (v := x5484) hC (trivial) rfl dX12_taken_111
          · refine lv_istore_n (lv' := [(3, .int 3), (0, .ref h0), (1, .int (nI jt)), (2, .int x2)]) hx hb dX12_taken_70 rfl hl (by decide) rfl (fun ls hl => ?_)
            refine lv_iload_n hx hb dX12_taken_71 rfl (lv_at hl 0 rfl) ?_
            refine lv_if_ge (tgt := 78) hx hb dX12_taken_72 (by decide) (fun _ => ?_) (fun c9 => absurd (by decide) c9)
            refine lv_iload_n hx hb dX12_taken_78 rfl (lv_at hl 0 rfl) ?_
            refine lv_if_lt (tgt := 95) hx hb dX12_taken_79 (by decide) (fun c9 => absurd c9 (by decide)) (fun _ => ?_)
            refine lv_iload_n hx hb dX12_taken_82 rfl (lv_at hl 0 rfl) ?_
            refine lv_iload_n hx hb dX12_taken_83 rfl (lv_at hl 3 rfl) ?_
            refine lv_icmp_eq (tgt := 95) hx hb dX12_taken_84 (by decide) (fun c_84_5485 => ?_) (fun c_84_5485 => ?_)
            · refine lv_iload_n hx hb dX12_taken_95 rfl (lv_at hl 0 rfl) ?_
              refine lv_iload_n hx hb dX12_taken_96 rfl (lv_at hl 3 rfl) ?_
              refine lv_icmp_ne (tgt := 109) hx hb dX12_taken_97 (by decide) (fun c9 => absurd (c_84_5485) c9) (fun _ => ?_)
              refine lv_aload_n hx hb dX12_taken_100 rfl (lv_at hl 1 rfl) ?_
              refine gf_X12_75 hC rfl hK hP 0 rfl rfl dX12_taken_101 ?_
              refine lv_iload_n hx hb dX12_taken_104 rfl (lv_at hl 2 rfl) ?_
              refine ald hC hK hP 3 rfl (vp_in_nI (by omega) (by omega)) (k := jt) (nI_clamp (by omega)) (v := fnsf jt) rfl dX12_taken_105 ?_
              refine lv_topi (fun x5486 ex5486 => ?_)
              refine lv_goto (tgt := 111) hx hb dX12_taken_106 (by decide) ?_
              exact RP (v := x5486) hC (trivial) rfl dX12_taken_111
            · refine lv_iload_n hx hb dX12_taken_87 rfl (lv_at hl 0 rfl) ?_
              refine pS hC hK hl (m_above3 l G) si_X12_348 rfl rfl (Nat.le_of_ble_eq_true rfl) ⟨Nat.le_of_ble_eq_true rfl, Nat.le_of_ble_eq_true rfl⟩ ⟨by first | exact Nat.le_of_ble_eq_true rfl | exact Nat.zero_le _, by first | exact Nat.le_of_ble_eq_true rfl | exact Nat.zero_le _⟩ dX12_taken_88 (fun r5487 hr5487 => ?_)
              obtain rfl := hr5487
              refine lv_istore_n (lv' := [(3, .int 1), (0, .ref h0), (1, .int (nI jt)), (2, .int x2)]) hx hb dX12_taken_91 rfl hl (by decide) rfl (fun ls hl => ?_)
              refine lv_goto (tgt := 78) hx hb dX12_taken_92 (by decide) ?_
              refine lv_iload_n hx hb dX12_taken_78 rfl (lv_at hl 0 rfl) ?_
              refine lv_if_lt (tgt := 95) hx hb dX12_taken_79 (by decide) (fun c9 => absurd c9 (by decide)) (fun _ => ?_)
              refine lv_iload_n hx hb dX12_taken_82 rfl (lv_at hl 0 rfl) ?_
              refine lv_iload_n hx hb dX12_taken_83 rfl (lv_at hl 3 rfl) ?_
              refine lv_icmp_eq (tgt := 95) hx hb dX12_taken_84 (by decide) (fun c_84_5489 => ?_) (fun c_84_5489 => ?_)
              · refine lv_iload_n hx hb dX12_taken_95 rfl (lv_at hl 0 rfl) ?_
                refine lv_iload_n hx hb dX12_taken_96 rfl (lv_at hl 3 rfl) ?_
                refine lv_icmp_ne (tgt := 109) hx hb dX12_taken_97 (by decide) (fun c9 => absurd (c_84_5489) c9) (fun _ => ?_)
                refine lv_aload_n hx hb dX12_taken_100 rfl (lv_at hl 1 rfl) ?_
                refine gf_X12_75 hC rfl hK hP 0 rfl rfl dX12_taken_101 ?_
                refine lv_iload_n hx hb dX12_taken_104 rfl (lv_at hl 2 rfl) ?_
                refine ald hC hK hP 3 rfl (vp_in_nI (by omega) (by omega)) (k := jt) (nI_clamp (by omega)) (v := fnsf jt) rfl dX12_taken_105 ?_
                refine lv_topi (fun x5490 ex5490 => ?_)
                refine lv_goto (tgt := 111) hx hb dX12_taken_106 (by decide) ?_
                exact RP (v := x5490) hC (trivial) rfl dX12_taken_111
              · refine lv_iload_n hx hb dX12_taken_87 rfl (lv_at hl 0 rfl) ?_
                refine pS hC hK hl (m_above1 l G) si_X12_348 rfl rfl (Nat.le_of_ble_eq_true rfl) ⟨Nat.le_of_ble_eq_true rfl, Nat.le_of_ble_eq_true rfl⟩ ⟨by first | exact Nat.le_of_ble_eq_true rfl | exact Nat.zero_le _, by first | exact Nat.le_of_ble_eq_true rfl | exact Nat.zero_le _⟩ dX12_taken_88 (fun r5491 hr5491 => ?_)
                obtain rfl := hr5491
                refine lv_istore_n (lv' := [(3, .int 0), (0, .ref h0), (1, .int (nI jt)), (2, .int x2)]) hx hb dX12_taken_91 rfl hl (by decide) rfl (fun ls hl => ?_)
                refine lv_goto (tgt := 78) hx hb dX12_taken_92 (by decide) ?_
                refine lv_iload_n hx hb dX12_taken_78 rfl (lv_at hl 0 rfl) ?_
                refine lv_if_lt (tgt := 95) hx hb dX12_taken_79 (by decide) (fun c9 => absurd c9 (by decide)) (fun _ => ?_)
                refine lv_iload_n hx hb dX12_taken_82 rfl (lv_at hl 0 rfl) ?_
                refine lv_iload_n hx hb dX12_taken_83 rfl (lv_at hl 3 rfl) ?_
                refine lv_icmp_eq (tgt := 95) hx hb dX12_taken_84 (by decide) (fun c_84_5493 => ?_) (fun c_84_5493 => ?_)
                · refine lv_iload_n hx hb dX12_taken_95 rfl (lv_at hl 0 rfl) ?_
                  refine lv_iload_n hx hb dX12_taken_96 rfl (lv_at hl 3 rfl) ?_
                  refine lv_icmp_ne (tgt := 109) hx hb dX12_taken_97 (by decide) (fun c9 => absurd (c_84_5493) c9) (fun _ => ?_)
                  refine lv_aload_n hx hb dX12_taken_100 rfl (lv_at hl 1 rfl) ?_
                  refine gf_X12_75 hC rfl hK hP 0 rfl rfl dX12_taken_101 ?_
                  refine lv_iload_n hx hb dX12_taken_104 rfl (lv_at hl 2 rfl) ?_
                  refine ald hC hK hP 3 rfl (vp_in_nI (by omega) (by omega)) (k := jt) (nI_clamp (by omega)) (v := fnsf jt) rfl dX12_taken_105 ?_
                  refine lv_topi (fun x5494 ex5494 => ?_)
                  refine lv_goto (tgt := 111) hx hb dX12_taken_106 (by decide) ?_
                  exact RP (v := x5494) hC (trivial) rfl dX12_taken_111
                · refine lv_iload_n hx hb dX12_taken_87 rfl (lv_at hl 0 rfl) ?_
                  refine pS hC hK hl (m_above0 l G) si_X12_348 rfl rfl (Nat.le_of_ble_eq_true rfl) ⟨Nat.le_of_ble_eq_true rfl, Nat.le_of_ble_eq_true rfl⟩ ⟨by first | exact Nat.le_of_ble_eq_true rfl | exact Nat.zero_le _, by first | exact Nat.le_of_ble_eq_true rfl | exact Nat.zero_le _⟩ dX12_taken_88 (fun r5495 hr5495 => ?_)
                  obtain rfl := hr5495
                  refine lv_istore_n (lv' := [(3, .int (-1)), (0, .ref h0), (1, .int (nI jt)), (2, .int x2)]) hx hb dX12_taken_91 rfl hl (by decide) rfl (fun ls hl => ?_)
                  refine lv_goto (tgt := 78) hx hb dX12_taken_92 (by decide) ?_
                  refine lv_iload_n hx hb dX12_taken_78 rfl (lv_at hl 0 rfl) ?_
                  refine lv_if_lt (tgt := 95) hx hb dX12_taken_79 (by decide) (fun _ => ?_) (fun c9 => absurd (by decide) c9)
                  refine lv_iload_n hx hb dX12_taken_95 rfl (lv_at hl 0 rfl) ?_
                  refine lv_iload_n hx hb dX12_taken_96 rfl (lv_at hl 3 rfl) ?_
                  refine lv_icmp_ne (tgt := 109) hx hb dX12_taken_97 (by decide) (fun c_97_5497 => ?_) (fun c_97_5497 => ?_)
                  · refine lv_bipush (v := (-13)) hx hb dX12_taken_109 (by decide) ?_
                    exact RP (v := (-13)) hC (trivial) rfl dX12_taken_111
                  · refine lv_aload_n hx hb dX12_taken_100 rfl (lv_at hl 1 rfl) ?_
                    refine gf_X12_75 hC rfl hK hP 0 rfl rfl dX12_taken_101 ?_
                    refine lv_iload_n hx hb dX12_taken_104 rfl (lv_at hl 2 rfl) ?_
                    refine ald hC hK hP 3 rfl (vp_in_nI (by omega) (by omega)) (k := jt) (nI_clamp (by omega)) (v := fnsf jt) rfl dX12_taken_105 ?_
                    refine lv_topi (fun x5498 ex5498 => ?_)
                    refine lv_goto (tgt := 111) hx hb dX12_taken_106 (by decide) ?_
                    exact RP (v := x5498) hC (trivial) rfl dX12_taken_111
          · refine lv_istore_n (lv' := [(3, .int 4), (0, .ref h0), (1, .int (nI jt)), (2, .int x2)]) hx hb dX12_taken_70 rfl hl (by decide) rfl (fun ls hl => ?_)
            refine lv_iload_n hx hb dX12_taken_71 rfl (lv_at hl 0 rfl) ?_
            refine lv_if_ge (tgt := 78) hx hb dX12_taken_72 (by decide) (fun _ => ?_) (fun c9 => absurd (by decide) c9)
            refine lv_iload_n hx hb dX12_taken_78 rfl (lv_at hl 0 rfl) ?_
            refine lv_if_lt (tgt := 95) hx hb dX12_taken_79 (by decide) (fun c9 => absurd c9 (by decide)) (fun _ => ?_)
            refine lv_iload_n hx hb dX12_taken_82 rfl (lv_at hl 0 rfl) ?_
            refine lv_iload_n hx hb dX12_taken_83 rfl (lv_at hl 3 rfl) ?_
            refine lv_icmp_eq (tgt := 95) hx hb dX12_taken_84 (by decide) (fun c_84_5499 => ?_) (fun c_84_5499 => ?_)
            · refine lv_iload_n hx hb dX12_taken_95 rfl (lv_at hl 0 rfl) ?_
              refine lv_iload_n hx hb dX12_taken_96 rfl (lv_at hl 3 rfl) ?_
              refine lv_icmp_ne (tgt := 109) hx hb dX12_taken_97 (by decide) (fun c9 => absurd (c_84_5499) c9) (fun _ => ?_)
              refine lv_aload_n hx hb dX12_taken_100 rfl (lv_at hl 1 rfl) ?_
              refine gf_X12_75 hC rfl hK hP 0 rfl rfl dX12_taken_101 ?_
              refine lv_iload_n hx hb dX12_taken_104 rfl (lv_at hl 2 rfl) ?_
              refine ald hC hK hP 3 rfl (vp_in_nI (by omega) (by omega)) (k := jt) (nI_clamp (by omega)) (v := fnsf jt) rfl dX12_taken_105 ?_
              refine lv_topi (fun x5500 ex5500 => ?_)
              refine lv_goto (tgt := 111) hx hb dX12_taken_106 (by decide) ?_
              exact RP (v := x5500) hC (trivial) rfl dX12_taken_111
            · refine lv_iload_n hx hb dX12_taken_87 rfl (lv_at hl 0 rfl) ?_
              refine pS hC hK hl (m_above4 l G) si_X12_348 rfl rfl (Nat.le_of_ble_eq_true rfl) ⟨Nat.le_of_ble_eq_true rfl, Nat.le_of_ble_eq_true rfl⟩ ⟨by first | exact Nat.le_of_ble_eq_true rfl | exact Nat.zero_le _, by first | exact Nat.le_of_ble_eq_true rfl | exact Nat.zero_le _⟩ dX12_taken_88 (fun r5501 hr5501 => ?_)
              obtain rfl := hr5501
              refine lv_istore_n (lv' := [(3, .int 0), (0, .ref h0), (1, .int (nI jt)), (2, .int x2)]) hx hb dX12_taken_91 rfl hl (by decide) rfl (fun ls hl => ?_)
              refine lv_goto (tgt := 78) hx hb dX12_taken_92 (by decide) ?_
              refine lv_iload_n hx hb dX12_taken_78 rfl (lv_at hl 0 rfl) ?_
              refine lv_if_lt (tgt := 95) hx hb dX12_taken_79 (by decide) (fun c9 => absurd c9 (by decide)) (fun _ => ?_)
              refine lv_iload_n hx hb dX12_taken_82 rfl (lv_at hl 0 rfl) ?_
              refine lv_iload_n hx hb dX12_taken_83 rfl (lv_at hl 3 rfl) ?_
              refine lv_icmp_eq (tgt := 95) hx hb dX12_taken_84 (by decide) (fun c_84_5503 => ?_) (fun c_84_5503 => ?_)
              · refine lv_iload_n hx hb dX12_taken_95 rfl (lv_at hl 0 rfl) ?_
                refine lv_iload_n hx hb dX12_taken_96 rfl (lv_at hl 3 rfl) ?_
                refine lv_icmp_ne (tgt := 109) hx hb dX12_taken_97 (by decide) (fun c9 => absurd (c_84_5503) c9) (fun _ => ?_)
                refine lv_aload_n hx hb dX12_taken_100 rfl (lv_at hl 1 rfl) ?_
                refine gf_X12_75 hC rfl hK hP 0 rfl rfl dX12_taken_101 ?_
                refine lv_iload_n hx hb dX12_taken_104 rfl (lv_at hl 2 rfl) ?_
                refine ald hC hK hP 3 rfl (vp_in_nI (by omega) (by omega)) (k := jt) (nI_clamp (by omega)) (v := fnsf jt) rfl dX12_taken_105 ?_
                refine lv_topi (fun x5504 ex5504 => ?_)
                refine lv_goto (tgt := 111) hx hb dX12_taken_106 (by decide) ?_
                exact RP (v := x5504) hC (trivial) rfl dX12_taken_111
              · refine lv_iload_n hx hb dX12_taken_87 rfl (lv_at hl 0 rfl) ?_
                refine pS hC hK hl (m_above0 l G) si_X12_348 rfl rfl (Nat.le_of_ble_eq_true rfl) ⟨Nat.le_of_ble_eq_true rfl, Nat.le_of_ble_eq_true rfl⟩ ⟨by first | exact Nat.le_of_ble_eq_true rfl | exact Nat.zero_le _, by first | exact Nat.le_of_ble_eq_true rfl | exact Nat.zero_le _⟩ dX12_taken_88 (fun r5505 hr5505 => ?_)
                obtain rfl := hr5505
                refine lv_istore_n (lv' := [(3, .int (-1)), (0, .ref h0), (1, .int (nI jt)), (2, .int x2)]) hx hb dX12_taken_91 rfl hl (by decide) rfl (fun ls hl => ?_)
                refine lv_goto (tgt := 78) hx hb dX12_taken_92 (by decide) ?_
                refine lv_iload_n hx hb dX12_taken_78 rfl (lv_at hl 0 rfl) ?_
                refine lv_if_lt (tgt := 95) hx hb dX12_taken_79 (by decide) (fun _ => ?_) (fun c9 => absurd (by decide) c9)
                refine lv_iload_n hx hb dX12_taken_95 rfl (lv_at hl 0 rfl) ?_
                refine lv_iload_n hx hb dX12_taken_96 rfl (lv_at hl 3 rfl) ?_
                refine lv_icmp_ne (tgt := 109) hx hb dX12_taken_97 (by decide) (fun c_97_5507 => ?_) (fun c_97_5507 => ?_)
                · refine lv_bipush (v := (-13)) hx hb dX12_taken_109 (by decide) ?_
                  exact RP (v := (-13)) hC (trivial) rfl dX12_taken_111
                · refine lv_aload_n hx hb dX12_taken_100 rfl (lv_at hl 1 rfl) ?_
                  refine gf_X12_75 hC rfl hK hP 0 rfl rfl dX12_taken_101 ?_
                  refine lv_iload_n hx hb dX12_taken_104 rfl (lv_at hl 2 rfl) ?_
                  refine ald hC hK hP 3 rfl (vp_in_nI (by omega) (by omega)) (k := jt) (nI_clamp (by omega)) (v := fnsf jt) rfl dX12_taken_105 ?_
                  refine lv_topi (fun x5508 ex5508 => ?_)
                  refine lv_goto (tgt := 111) hx hb dX12_taken_106 (by decide) ?_
                  exact RP (v := x5508) hC (trivial) rfl dX12_taken_111
          · refine lv_istore_n (lv' := [(3, .int 5), (0, .ref h0), (1, .int (nI jt)), (2, .int x2)]) hx hb dX12_taken_70 rfl hl (by decide) rfl (fun ls hl => ?_)
            refine lv_iload_n hx hb dX12_taken_71 rfl (lv_at hl 0 rfl) ?_
            refine lv_if_ge (tgt := 78) hx hb dX12_taken_72 (by decide) (fun _ => ?_) (fun c9 => absurd (by decide) c9)
            refine lv_iload_n hx hb dX12_taken_78 rfl (lv_at hl 0 rfl) ?_
            refine lv_if_lt (tgt := 95) hx hb dX12_taken_79 (by decide) (fun c9 => absurd c9 (by decide)) (fun _ => ?_)
            refine lv_iload_n hx hb dX12_taken_82 rfl (lv_at hl 0 rfl) ?_
            refine lv_iload_n hx hb dX12_taken_83 rfl (lv_at hl 3 rfl) ?_
            refine lv_icmp_eq (tgt := 95) hx hb dX12_taken_84 (by decide) (fun c_84_5509 => ?_) (fun c_84_5509 => ?_)
            · refine lv_iload_n hx hb dX12_taken_95 rfl (lv_at hl 0 rfl) ?_
              refine lv_iload_n hx hb dX12_taken_96 rfl (lv_at hl 3 rfl) ?_
              refine lv_icmp_ne (tgt := 109) hx hb dX12_taken_97 (by decide) (fun c9 => absurd (c_84_5509) c9) (fun _ => ?_)
              refine lv_aload_n hx hb dX12_taken_100 rfl (lv_at hl 1 rfl) ?_
              refine gf_X12_75 hC rfl hK hP 0 rfl rfl dX12_taken_101 ?_
              refine lv_iload_n hx hb dX12_taken_104 rfl (lv_at hl 2 rfl) ?_
              refine ald hC hK hP 3 rfl (vp_in_nI (by omega) (by omega)) (k := jt) (nI_clamp (by omega)) (v := fnsf jt) rfl dX12_taken_105 ?_
              refine lv_topi (fun x5510 ex5510 => ?_)
              refine lv_goto (tgt := 111) hx hb dX12_taken_106 (by decide) ?_
              exact RP (v := x5510) hC (trivial) rfl dX12_taken_111
            · refine lv_iload_n hx hb dX12_taken_87 rfl (lv_at hl 0 rfl) ?_
              refine pS hC hK hl (m_above5 l G) si_X12_348 rfl rfl (Nat.le_of_ble_eq_true rfl) ⟨Nat.le_of_ble_eq_true rfl, Nat.le_of_ble_eq_true rfl⟩ ⟨by first | exact Nat.le_of_ble_eq_true rfl | exact Nat.zero_le _, by first | exact Nat.le_of_ble_eq_true rfl | exact Nat.zero_le _⟩ dX12_taken_88 (fun r5511 hr5511 => ?_)
              obtain rfl := hr5511
              refine lv_istore_n (lv' := [(3, .int 4), (0, .ref h0), (1, .int (nI jt)), (2, .int x2)]) hx hb dX12_taken_91 rfl hl (by decide) rfl (fun ls hl => ?_)
              refine lv_goto (tgt := 78) hx hb dX12_taken_92 (by decide) ?_
              refine lv_iload_n hx hb dX12_taken_78 rfl (lv_at hl 0 rfl) ?_
              refine lv_if_lt (tgt := 95) hx hb dX12_taken_79 (by decide) (fun c9 => absurd c9 (by decide)) (fun _ => ?_)
              refine lv_iload_n hx hb dX12_taken_82 rfl (lv_at hl 0 rfl) ?_
              refine lv_iload_n hx hb dX12_taken_83 rfl (lv_at hl 3 rfl) ?_
              refine lv_icmp_eq (tgt := 95) hx hb dX12_taken_84 (by decide) (fun c_84_5513 => ?_) (fun c_84_5513 => ?_)
              · refine lv_iload_n hx hb dX12_taken_95 rfl (lv_at hl 0 rfl) ?_
                refine lv_iload_n hx hb dX12_taken_96 rfl (lv_at hl 3 rfl) ?_
                refine lv_icmp_ne (tgt := 109) hx hb dX12_taken_97 (by decide) (fun c9 => absurd (c_84_5513) c9) (fun _ => ?_)
                refine lv_aload_n hx hb dX12_taken_100 rfl (lv_at hl 1 rfl) ?_
                refine gf_X12_75 hC rfl hK hP 0 rfl rfl dX12_taken_101 ?_
                refine lv_iload_n hx hb dX12_taken_104 rfl (lv_at hl 2 rfl) ?_
                refine ald hC hK hP 3 rfl (vp_in_nI (by omega) (by omega)) (k := jt) (nI_clamp (by omega)) (v := fnsf jt) rfl dX12_taken_105 ?_
                refine lv_topi (fun x5514 ex5514 => ?_)
                refine lv_goto (tgt := 111) hx hb dX12_taken_106 (by decide) ?_
                exact RP (v := x5514) hC (trivial) rfl dX12_taken_111
              · refine lv_iload_n hx hb dX12_taken_87 rfl (lv_at hl 0 rfl) ?_
                refine pS hC hK hl (m_above4 l G) si_X12_348 rfl rfl (Nat.le_of_ble_eq_true rfl) ⟨Nat.le_of_ble_eq_true rfl, Nat.le_of_ble_eq_true rfl⟩ ⟨by first | exact Nat.le_of_ble_eq_true rfl | exact Nat.zero_le _, by first | exact Nat.le_of_ble_eq_true rfl | exact Nat.zero_le _⟩ dX12_taken_88 (fun r5515 hr5515 => ?_)
                obtain rfl := hr5515
                refine lv_istore_n (lv' := [(3, .int 0), (0, .ref h0), (1, .int (nI jt)), (2, .int x2)]) hx hb dX12_taken_91 rfl hl (by decide) rfl (fun ls hl => ?_)
                refine lv_goto (tgt := 78) hx hb dX12_taken_92 (by decide) ?_
                refine lv_iload_n hx hb dX12_taken_78 rfl (lv_at hl 0 rfl) ?_
                refine lv_if_lt (tgt := 95) hx hb dX12_taken_79 (by decide) (fun c9 => absurd c9 (by decide)) (fun _ => ?_)
                refine lv_iload_n hx hb dX12_taken_82 rfl (lv_at hl 0 rfl) ?_
                refine lv_iload_n hx hb dX12_taken_83 rfl (lv_at hl 3 rfl) ?_
                refine lv_icmp_eq (tgt := 95) hx hb dX12_taken_84 (by decide) (fun c_84_5517 => ?_) (fun c_84_5517 => ?_)
                · refine lv_iload_n hx hb dX12_taken_95 rfl (lv_at hl 0 rfl) ?_
                  refine lv_iload_n hx hb dX12_taken_96 rfl (lv_at hl 3 rfl) ?_
                  refine lv_icmp_ne (tgt := 109) hx hb dX12_taken_97 (by decide) (fun c9 => absurd (c_84_5517) c9) (fun _ => ?_)
                  refine lv_aload_n hx hb dX12_taken_100 rfl (lv_at hl 1 rfl) ?_
                  refine gf_X12_75 hC rfl hK hP 0 rfl rfl dX12_taken_101 ?_
                  refine lv_iload_n hx hb dX12_taken_104 rfl (lv_at hl 2 rfl) ?_
                  refine ald hC hK hP 3 rfl (vp_in_nI (by omega) (by omega)) (k := jt) (nI_clamp (by omega)) (v := fnsf jt) rfl dX12_taken_105 ?_
                  refine lv_topi (fun x5518 ex5518 => ?_)
                  refine lv_goto (tgt := 111) hx hb dX12_taken_106 (by decide) ?_
                  exact RP (v := x5518) hC (trivial) rfl dX12_taken_111
                · refine lv_iload_n hx hb dX12_taken_87 rfl (lv_at hl 0 rfl) ?_
                  refine pS hC hK hl (m_above0 l G) si_X12_348 rfl rfl (Nat.le_of_ble_eq_true rfl) ⟨Nat.le_of_ble_eq_true rfl, Nat.le_of_ble_eq_true rfl⟩ ⟨by first | exact Nat.le_of_ble_eq_true rfl | exact Nat.zero_le _, by first | exact Nat.le_of_ble_eq_true rfl | exact Nat.zero_le _⟩ dX12_taken_88 (fun r5519 hr5519 => ?_)
                  obtain rfl := hr5519
                  refine lv_istore_n (lv' := [(3, .int (-1)), (0, .ref h0), (1, .int (nI jt)), (2, .int x2)]) hx hb dX12_taken_91 rfl hl (by decide) rfl (fun ls hl => ?_)
                  refine lv_goto (tgt := 78) hx hb dX12_taken_92 (by decide) ?_
                  refine lv_iload_n hx hb dX12_taken_78 rfl (lv_at hl 0 rfl) ?_
                  refine lv_if_lt (tgt := 95) hx hb dX12_taken_79 (by decide) (fun _ => ?_) (fun c9 => absurd (by decide) c9)
                  refine lv_iload_n hx hb dX12_taken_95 rfl (lv_at hl 0 rfl) ?_
                  refine lv_iload_n hx hb dX12_taken_96 rfl (lv_at hl 3 rfl) ?_
                  refine lv_icmp_ne (tgt := 109) hx hb dX12_taken_97 (by decide) (fun c_97_5521 => ?_) (fun c_97_5521 => ?_)
                  · refine lv_bipush (v := (-13)) hx hb dX12_taken_109 (by decide) ?_
                    exact RP (v := (-13)) hC (trivial) rfl dX12_taken_111
                  · refine lv_aload_n hx hb dX12_taken_100 rfl (lv_at hl 1 rfl) ?_
                    refine gf_X12_75 hC rfl hK hP 0 rfl rfl dX12_taken_101 ?_
                    refine lv_iload_n hx hb dX12_taken_104 rfl (lv_at hl 2 rfl) ?_
                    refine ald hC hK hP 3 rfl (vp_in_nI (by omega) (by omega)) (k := jt) (nI_clamp (by omega)) (v := fnsf jt) rfl dX12_taken_105 ?_
                    refine lv_topi (fun x5522 ex5522 => ?_)
                    refine lv_goto (tgt := 111) hx hb dX12_taken_106 (by decide) ?_
                    exact RP (v := x5522) hC (trivial) rfl dX12_taken_111
          · refine lv_istore_n (lv' := [(3, .int 6), (0, .ref h0), (1, .int (nI jt)), (2, .int x2)]) hx hb dX12_taken_70 rfl hl (by decide) rfl (fun ls hl => ?_)
            refine lv_iload_n hx hb dX12_taken_71 rfl (lv_at hl 0 rfl) ?_
            refine lv_if_ge (tgt := 78) hx hb dX12_taken_72 (by decide) (fun _ => ?_) (fun c9 => absurd (by decide) c9)
            refine lv_iload_n hx hb dX12_taken_78 rfl (lv_at hl 0 rfl) ?_
            refine lv_if_lt (tgt := 95) hx hb dX12_taken_79 (by decide) (fun c9 => absurd c9 (by decide)) (fun _ => ?_)
            refine lv_iload_n hx hb dX12_taken_82 rfl (lv_at hl 0 rfl) ?_
            refine lv_iload_n hx hb dX12_taken_83 rfl (lv_at hl 3 rfl) ?_
            refine lv_icmp_eq (tgt := 95) hx hb dX12_taken_84 (by decide) (fun c_84_5523 => ?_) (fun c_84_5523 => ?_)
            · refine lv_iload_n hx hb dX12_taken_95 rfl (lv_at hl 0 rfl) ?_
              refine lv_iload_n hx hb dX12_taken_96 rfl (lv_at hl 3 rfl) ?_
              refine lv_icmp_ne (tgt := 109) hx hb dX12_taken_97 (by decide) (fun c9 => absurd (c_84_5523) c9) (fun _ => ?_)
              refine lv_aload_n hx hb dX12_taken_100 rfl (lv_at hl 1 rfl) ?_
              refine gf_X12_75 hC rfl hK hP 0 rfl rfl dX12_taken_101 ?_
              refine lv_iload_n hx hb dX12_taken_104 rfl (lv_at hl 2 rfl) ?_
              refine ald hC hK hP 3 rfl (vp_in_nI (by omega) (by omega)) (k := jt) (nI_clamp (by omega)) (v := fnsf jt) rfl dX12_taken_105 ?_
              refine lv_topi (fun x5524 ex5524 => ?_)
              refine lv_goto (tgt := 111) hx hb dX12_taken_106 (by decide) ?_
              exact RP (v := x5524) hC (trivial) rfl dX12_taken_111
            · refine lv_iload_n hx hb dX12_taken_87 rfl (lv_at hl 0 rfl) ?_
              refine pS hC hK hl (m_above6 l G) si_X12_348 rfl rfl (Nat.le_of_ble_eq_true rfl) ⟨Nat.le_of_ble_eq_true rfl, Nat.le_of_ble_eq_true rfl⟩ ⟨by first | exact Nat.le_of_ble_eq_true rfl | exact Nat.zero_le _, by first | exact Nat.le_of_ble_eq_true rfl | exact Nat.zero_le _⟩ dX12_taken_88 (fun r5525 hr5525 => ?_)
              obtain rfl := hr5525
              refine lv_istore_n (lv' := [(3, .int 0), (0, .ref h0), (1, .int (nI jt)), (2, .int x2)]) hx hb dX12_taken_91 rfl hl (by decide) rfl (fun ls hl => ?_)
              refine lv_goto (tgt := 78) hx hb dX12_taken_92 (by decide) ?_
              refine lv_iload_n hx hb dX12_taken_78 rfl (lv_at hl 0 rfl) ?_
              refine lv_if_lt (tgt := 95) hx hb dX12_taken_79 (by decide) (fun c9 => absurd c9 (by decide)) (fun _ => ?_)
              refine lv_iload_n hx hb dX12_taken_82 rfl (lv_at hl 0 rfl) ?_
              refine lv_iload_n hx hb dX12_taken_83 rfl (lv_at hl 3 rfl) ?_
              refine lv_icmp_eq (tgt := 95) hx hb dX12_taken_84 (by decide) (fun c_84_5527 => ?_) (fun c_84_5527 => ?_)
              · refine lv_iload_n hx hb dX12_taken_95 rfl (lv_at hl 0 rfl) ?_
                refine lv_iload_n hx hb dX12_taken_96 rfl (lv_at hl 3 rfl) ?_
                refine lv_icmp_ne (tgt := 109) hx hb dX12_taken_97 (by decide) (fun c9 => absurd (c_84_5527) c9) (fun _ => ?_)
                refine lv_aload_n hx hb dX12_taken_100 rfl (lv_at hl 1 rfl) ?_
                refine gf_X12_75 hC rfl hK hP 0 rfl rfl dX12_taken_101 ?_
                refine lv_iload_n hx hb dX12_taken_104 rfl (lv_at hl 2 rfl) ?_
                refine ald hC hK hP 3 rfl (vp_in_nI (by omega) (by omega)) (k := jt) (nI_clamp (by omega)) (v := fnsf jt) rfl dX12_taken_105 ?_
                refine lv_topi (fun x5528 ex5528 => ?_)
                refine lv_goto (tgt := 111) hx hb dX12_taken_106 (by decide) ?_
                exact RP (v := x5528) hC (trivial) rfl dX12_taken_111
              · refine lv_iload_n hx hb dX12_taken_87 rfl (lv_at hl 0 rfl) ?_
                refine pS hC hK hl (m_above0 l G) si_X12_348 rfl rfl (Nat.le_of_ble_eq_true rfl) ⟨Nat.le_of_ble_eq_true rfl, Nat.le_of_ble_eq_true rfl⟩ ⟨by first | exact Nat.le_of_ble_eq_true rfl | exact Nat.zero_le _, by first | exact Nat.le_of_ble_eq_true rfl | exact Nat.zero_le _⟩ dX12_taken_88 (fun r5529 hr5529 => ?_)
                obtain rfl := hr5529
                refine lv_istore_n (lv' := [(3, .int (-1)), (0, .ref h0), (1, .int (nI jt)), (2, .int x2)]) hx hb dX12_taken_91 rfl hl (by decide) rfl (fun ls hl => ?_)
                refine lv_goto (tgt := 78) hx hb dX12_taken_92 (by decide) ?_
                refine lv_iload_n hx hb dX12_taken_78 rfl (lv_at hl 0 rfl) ?_
                refine lv_if_lt (tgt := 95) hx hb dX12_taken_79 (by decide) (fun _ => ?_) (fun c9 => absurd (by decide) c9)
                refine lv_iload_n hx hb dX12_taken_95 rfl (lv_at hl 0 rfl) ?_
                refine lv_iload_n hx hb dX12_taken_96 rfl (lv_at hl 3 rfl) ?_
                refine lv_icmp_ne (tgt := 109) hx hb dX12_taken_97 (by decide) (fun c_97_5531 => ?_) (fun c_97_5531 => ?_)
                · refine lv_bipush (v := (-13)) hx hb dX12_taken_109 (by decide) ?_
                  exact RP (v := (-13)) hC (trivial) rfl dX12_taken_111
                · refine lv_aload_n hx hb dX12_taken_100 rfl (lv_at hl 1 rfl) ?_
                  refine gf_X12_75 hC rfl hK hP 0 rfl rfl dX12_taken_101 ?_
                  refine lv_iload_n hx hb dX12_taken_104 rfl (lv_at hl 2 rfl) ?_
                  refine ald hC hK hP 3 rfl (vp_in_nI (by omega) (by omega)) (k := jt) (nI_clamp (by omega)) (v := fnsf jt) rfl dX12_taken_105 ?_
                  refine lv_topi (fun x5532 ex5532 => ?_)
                  refine lv_goto (tgt := 111) hx hb dX12_taken_106 (by decide) ?_
                  exact RP (v := x5532) hC (trivial) rfl dX12_taken_111
        · refine lv_iload_n hx hb dX12_taken_40 rfl (lv_at hl 2 rfl) ?_
          refine lv_bipush (v := 10) hx hb dX12_taken_41 (by decide) ?_
          refine lv_isub hx hb dX12_taken_43 ?_
          refine lv_aload_n hx hb dX12_taken_44 rfl (lv_at hl 0 rfl) ?_
          refine gf_X12_75 hC rfl hK hP 0 rfl rfl dX12_taken_45 ?_
          refine lv_iload_n hx hb dX12_taken_48 rfl (lv_at hl 1 rfl) ?_
          refine ald hC hK hP 3 rfl (vp_in_nI (by omega) (by omega)) (k := jt) (nI_clamp (by omega)) (v := fnsf jt) rfl dX12_taken_49 ?_
          refine lv_topi (fun x5533 ex5533 => ?_)
          refine lv_icmp_ne (tgt := 62) hx hb dX12_taken_50 (by decide) (fun c_50_5534 => ?_) (fun c_50_5534 => ?_)
          · refine lv_bipush (v := (-13)) hx hb dX12_taken_62 (by decide) ?_
            exact RP (v := (-13)) hC (trivial) rfl dX12_taken_64
          · refine lv_aload_n hx hb dX12_taken_53 rfl (lv_at hl 0 rfl) ?_
            refine gf_X12_78 hC rfl hK hP 0 rfl rfl dX12_taken_54 ?_
            refine lv_iload_n hx hb dX12_taken_57 rfl (lv_at hl 1 rfl) ?_
            refine ald hC hK hP 4 rfl (vp_in_nI (by omega) (by omega)) (k := jt) (nI_clamp (by omega)) (v := fnss jt) rfl dX12_taken_58 ?_
            refine lv_topi (fun x5535 ex5535 => ?_)
            refine lv_goto (tgt := 64) hx hb dX12_taken_59 (by decide) ?_
            exact RP (v := x5535) hC (trivial) rfl dX12_taken_64
      · refine lv_if_ne (tgt := 30) hx hb dX12_taken_25 (by decide) (fun c9 => absurd (by decide) c9) (fun _ => ?_)
        refine lv_iconst (v := (-1)) hx hb dX12_taken_28 (by decide) ?_
        exact RP (v := (-1)) hC (trivial) rfl dX12_taken_29
  · refine lv_if_eq (tgt := 28) hx hb dX12_taken_4 (by decide) (fun _ => ?_) (fun c9 => absurd (by decide) c9)
    refine lv_iconst (v := (-1)) hx hb dX12_taken_28 (by decide) ?_
    exact RP (v := (-1)) hC (trivial) rfl dX12_taken_29
set_option maxHeartbeats 4000000 in
set_option maxRecDepth 100000 in
theorem m_began (l : Launch) (G : GG) (h0 : Nat) (bo : Int32) (nw : Nat) (nk : Nat) (mhasKept : Int32) (nt : Nat) (mtaped : Int32) (nr : Nat) (mrowMany : Int32) (mroundOf : Int32) (mroundFrom : Int32) (mouts : Int32) (nm : Nat) (mfromHour : Int32) (mtoHour : Int32) (ns : Nat) (mfrom : Int32) (mto : Int32) (msort : Int32) (misFault : Int32) (mdeep : Int32) (mcoded : Int32) (mlines : Int32) (nl : Nat) (nc : Nat) (nF : Nat) (np : Nat) (ntr : Nat) (nb : Nat) (mbestCost : Int32) (nso : Nat) (nsi : Nat) (nit : Nat) (nsh : Nat) (nsf : Nat) (nss : Nat) (nrc : Nat) (jr : Nat) (mdealer : Int32) (mnumber : Int32) (mwhose : Int32) (msize : Int32) (misParted : Int32) (fnrc : Nat → Int32) (hjr : jr ≤ 30) : MV l G yX12_began cX12_began 2 1 0 0 [.ref h0, .int bo] [(h0, .inr (12, [.ref nw, .ref nk, .int mhasKept, .ref nt, .int mtaped, .ref nr, .int mrowMany, .int mroundOf, .int mroundFrom, .int mouts, .ref nm, .int mfromHour, .int mtoHour, .ref ns, .int mfrom, .int mto, .int msort, .int misFault, .int mdeep, .int mcoded, .int mlines, .ref nl, .ref nc, .ref nF, .ref np, .ref ntr, .ref nb, .int mbestCost, .ref nso, .ref nsi, .ref nit, .ref nsh, .ref nsf, .ref nss, .ref nrc, .int (nI jr), .int mdealer, .int mnumber, .int mwhose, .int msize, .int misParted])), (nrc, .inl (G.2.1, 30, .inl fnrc))] (fun u : Nat × (Nat → Int32) => u.1 ≤ 30) (fun u : Nat × (Nat → Int32) => [(h0, .inr (12, [.ref nw, .ref nk, .int mhasKept, .ref nt, .int mtaped, .ref nr, .int mrowMany, .int mroundOf, .int mroundFrom, .int mouts, .ref nm, .int mfromHour, .int mtoHour, .ref ns, .int mfrom, .int mto, .int msort, .int misFault, .int mdeep, .int mcoded, .int mlines, .ref nl, .ref nc, .ref nF, .ref np, .ref ntr, .ref nb, .int mbestCost, .ref nso, .ref nsi, .ref nit, .ref nsh, .ref nsf, .ref nss, .ref nrc, .int (nI u.1), .int mdealer, .int mnumber, .int mwhose, .int msize, .int misParted])), (nrc, .inl (G.2.1, 30, .inl u.2))]) := by
  refine MV.start (by decide +kernel) (Nat.le_of_ble_eq_true rfl) ?_
  intro p e s m below meth c A ls hC hK hP hD hS hA hl
  have hl : lv_has ls 2 [(0, .ref h0), (1, .int bo)] := hl
  obtain ⟨hx, hb, hr, hml, hB, hown, hlocks, hnm⟩ := id hC
  refine lv_aload_n hx hb dX12_began_0 rfl (lv_at hl 0 rfl) ?_
  refine gf_X12_351 hC rfl hK hP 0 rfl rfl dX12_began_1 ?_
  refine lv_bipush (v := 30) hx hb dX12_began_4 (by decide) ?_
  refine lv_icmp_ge (tgt := 29) hx hb dX12_began_6 (by decide) (fun c_6_5536 => ?_) (fun c_6_5536 => ?_)
  · exact RV hC hP hD hS [0, 1] (jr, fnrc) rfl rfl (by decide) (by omega) dX12_began_29
  · have hjr9 := nge_nat (R := 30) (k := jr) (by decide) (by omega) c_6_5536
    refine lv_aload_n hx hb dX12_began_9 rfl (lv_at hl 0 rfl) ?_
    refine gf_X12_81 hC rfl hK hP 0 rfl rfl dX12_began_10 ?_
    refine lv_aload_n hx hb dX12_began_13 rfl (lv_at hl 0 rfl) ?_
    refine gf_X12_351 hC rfl hK hP 0 rfl rfl dX12_began_14 ?_
    refine lv_iload_n hx hb dX12_began_17 rfl (lv_at hl 1 rfl) ?_
    refine ast hC hK hP hD hS 1 (ws' := [(h0, .inr (12, [.ref nw, .ref nk, .int mhasKept, .ref nt, .int mtaped, .ref nr, .int mrowMany, .int mroundOf, .int mroundFrom, .int mouts, .ref nm, .int mfromHour, .int mtoHour, .ref ns, .int mfrom, .int mto, .int msort, .int misFault, .int mdeep, .int mcoded, .int mlines, .ref nl, .ref nc, .ref nF, .ref np, .ref ntr, .ref nb, .int mbestCost, .ref nso, .ref nsi, .ref nit, .ref nsh, .ref nsf, .ref nss, .ref nrc, .int (nI jr), .int mdealer, .int mnumber, .int mwhose, .int msize, .int misParted])), (nrc, .inl (G.2.1, 30, .inl (upd fnrc jr bo)))]) rfl (vp_in_nI (by omega) (by omega)) (k := jr) (nI_clamp (by omega)) (rfl) dX12_began_18 (fun H locs hP hD hS => ?_)
    refine lv_aload_n hx hb dX12_began_19 rfl (lv_at hl 0 rfl) ?_
    refine lv_dup hx hb dX12_began_20 rfl ?_
    refine gf_X12_351 hC rfl hK hP 0 rfl rfl dX12_began_21 ?_
    refine lv_iconst (v := 1) hx hb dX12_began_24 (by decide) ?_
    refine lv_iadd hx hb dX12_began_25 ?_
    refine eqi (x1 := nI (jr + 1)) (nI_add jr 1) ?_
    refine pf_X12_351 hC rfl hK hP hD hS 0 (ws' := [(h0, .inr (12, [.ref nw, .ref nk, .int mhasKept, .ref nt, .int mtaped, .ref nr, .int mrowMany, .int mroundOf, .int mroundFrom, .int mouts, .ref nm, .int mfromHour, .int mtoHour, .ref ns, .int mfrom, .int mto, .int msort, .int misFault, .int mdeep, .int mcoded, .int mlines, .ref nl, .ref nc, .ref nF, .ref np, .ref ntr, .ref nb, .int mbestCost, .ref nso, .ref nsi, .ref nit, .ref nsh, .ref nsf, .ref nss, .ref nrc, .int (nI (jr + 1)), .int mdealer, .int mnumber, .int mwhose, .int msize, .int misParted])), (nrc, .inl (G.2.1, 30, .inl (upd fnrc jr bo)))]) rfl (Nat.le_of_ble_eq_true rfl) rfl rfl rfl dX12_began_26 (fun H locs hP hD hS => ?_)
    exact RV hC hP hD hS [0, 1] ((jr + 1), upd fnrc jr bo) rfl rfl (by decide) (by omega) dX12_began_29
set_option maxHeartbeats 4000000 in
set_option maxRecDepth 100000 in
theorem m_body00 (l : Launch) (G : GG) (h0 : Nat) (xx : Int32) (nw : Nat) (nk : Nat) (mhasKept : Int32) (nt : Nat) (mtaped : Int32) (nr : Nat) (mrowMany : Int32) (mroundOf : Int32) (mroundFrom : Int32) (mouts : Int32) (nm : Nat) (mfromHour : Int32) (mtoHour : Int32) (ns : Nat) (mfrom : Int32) (mto : Int32) (msort : Int32) (misFault : Int32) (mdeep : Int32) (mcoded : Int32) (mlines : Int32) (nl : Nat) (nc : Nat) (nF : Nat) (np : Nat) (ntr : Nat) (nb : Nat) (mbestCost : Int32) (nso : Nat) (nsi : Nat) (nit : Nat) (nsh : Nat) (nsf : Nat) (nss : Nat) (nrc : Nat) (jr : Nat) (jd : Nat) (mnumber : Int32) (mwhose : Int32) (msize : Int32) (misParted : Int32) (fnrc : Nat → Int32) (hjr : jr ≤ 30) (hjd : jd < 7) : MI l G yX12_body cX12_body 6 (some .int) 3 0 0 [.ref h0, .int 0, .int 0, .int xx] [(h0, .inr (12, [.ref nw, .ref nk, .int mhasKept, .ref nt, .int mtaped, .ref nr, .int mrowMany, .int mroundOf, .int mroundFrom, .int mouts, .ref nm, .int mfromHour, .int mtoHour, .ref ns, .int mfrom, .int mto, .int msort, .int misFault, .int mdeep, .int mcoded, .int mlines, .ref nl, .ref nc, .ref nF, .ref np, .ref ntr, .ref nb, .int mbestCost, .ref nso, .ref nsi, .ref nit, .ref nsh, .ref nsf, .ref nss, .ref nrc, .int (nI jr), .int (nI jd), .int mnumber, .int mwhose, .int msize, .int misParted])), (nrc, .inl (G.2.1, 30, .inl fnrc))] (fun (r : Int32) (u : Nat × Int32 × (Nat → Int32)) => (True) ∧ (u.1 ≤ 30)) (fun u : Nat × Int32 × (Nat → Int32) => [(h0, .inr (12, [.ref nw, .ref nk, .int mhasKept, .ref nt, .int mtaped, .ref nr, .int mrowMany, .int mroundOf, .int mroundFrom, .int mouts, .ref nm, .int mfromHour, .int mtoHour, .ref ns, .int mfrom, .int mto, .int msort, .int misFault, .int mdeep, .int mcoded, .int mlines, .ref nl, .ref nc, .ref nF, .ref np, .ref ntr, .ref nb, .int mbestCost, .ref nso, .ref nsi, .ref nit, .ref nsh, .ref nsf, .ref nss, .ref nrc, .int (nI u.1), .int (nI jd), .int mnumber, .int mwhose, .int msize, .int u.2.1])), (nrc, .inl (G.2.1, 30, .inl u.2.2))]) := by
  refine MI.start (by decide +kernel) (Nat.le_of_ble_eq_true rfl) ?_
  intro p e s m below meth c A ls hC hK hP hD hS hA hl
  have hl : lv_has ls 6 [(0, .ref h0), (1, .int 0), (2, .int 0), (3, .int xx)] := hl
  obtain ⟨hx, hb, hr, hml, hB, hown, hlocks, hnm⟩ := id hC
  refine lv_iconst (v := 4) hx hb dX12_body_0 (by decide) ?_
  refine lv_iload_n hx hb dX12_body_1 rfl (lv_at hl 1 rfl) ?_
  refine lv_imul hx hb dX12_body_2 ?_
  refine eqi (x1 := 0) (by decide) ?_
  refine lv_iload_n hx hb dX12_body_3 rfl (lv_at hl 2 rfl) ?_
  refine lv_iadd hx hb dX12_body_4 ?_
  refine eqi (x1 := 0) (by decide) ?_
  refine lv_tableIn (tgt := 112) hx hb dX12_body_5 (by decide) (by decide) rfl (by decide) ?_
  refine lv_aload_n hx hb dX12_body_112 rfl (lv_at hl 0 rfl) ?_
  refine lv_bipush (v := 10) hx hb dX12_body_113 (by decide) ?_
  refine vV (wr := []) hC hK hl hP hD hS hA (m_began l G h0 10 nw nk mhasKept nt mtaped nr mrowMany mroundOf mroundFrom mouts nm mfromHour mtoHour ns mfrom mto msort misFault mdeep mcoded mlines nl nc nF np ntr nb mbestCost nso nsi nit nsh nsf nss nrc jr (nI jd) mnumber mwhose msize misParted fnrc (by omega)) si_X12_366 [0, 1] [] rfl rfl (by decide) rfl (by decide) (by decide) rfl rfl rfl rfl rfl (Nat.le_of_ble_eq_true rfl) ⟨Nat.le_of_ble_eq_true rfl, Nat.le_of_ble_eq_true rfl⟩ ⟨Nat.le_of_ble_eq_true rfl, Nat.le_of_ble_eq_true rfl⟩ dX12_body_115 (fun u5538 H locs hr5537 hP hD hS => ?_)
  obtain ⟨jr15539, gtrc5540⟩ := u5538
  try dsimp only at hr5537
  have hP : va_P G.1 vwCl [(h0, .inr (12, [.ref nw, .ref nk, .int mhasKept, .ref nt, .int mtaped, .ref nr, .int mrowMany, .int mroundOf, .int mroundFrom, .int mouts, .ref nm, .int mfromHour, .int mtoHour, .ref ns, .int mfrom, .int mto, .int msort, .int misFault, .int mdeep, .int mcoded, .int mlines, .ref nl, .ref nc, .ref nF, .ref np, .ref ntr, .ref nb, .int mbestCost, .ref nso, .ref nsi, .ref nit, .ref nsh, .ref nsf, .ref nss, .ref nrc, .int (nI jr15539), .int (nI jd), .int mnumber, .int mwhose, .int msize, .int misParted])), (nrc, .inl (G.2.1, 30, .inl gtrc5540))] H := hP
  have hD : va_D A [(h0, .inr (12, [.ref nw, .ref nk, .int mhasKept, .ref nt, .int mtaped, .ref nr, .int mrowMany, .int mroundOf, .int mroundFrom, .int mouts, .ref nm, .int mfromHour, .int mtoHour, .ref ns, .int mfrom, .int mto, .int msort, .int misFault, .int mdeep, .int mcoded, .int mlines, .ref nl, .ref nc, .ref nF, .ref np, .ref ntr, .ref nb, .int mbestCost, .ref nso, .ref nsi, .ref nit, .ref nsh, .ref nsf, .ref nss, .ref nrc, .int (nI jr15539), .int (nI jd), .int mnumber, .int mwhose, .int msize, .int misParted])), (nrc, .inl (G.2.1, 30, .inl gtrc5540))] := hD
  have w5541 := hr5537
  refine lv_iload_n hx hb dX12_body_118 rfl (lv_at hl 3 rfl) ?_
  refine lv_aload_n hx hb dX12_body_119 rfl (lv_at hl 0 rfl) ?_
  refine gf_X12_369 hC rfl hK hP 0 rfl rfl dX12_body_120 ?_
  refine lv_iadd hx hb dX12_body_123 ?_
  exact RI (v := xx + msize) hC hP hD hS [0, 1] (jr15539, misParted, gtrc5540) rfl rfl (by decide) (⟨trivial, by omega⟩) rfl dX12_body_124
set_option maxHeartbeats 4000000 in
set_option maxRecDepth 100000 in
theorem m_from00 (l : Launch) (G : GG) (h0 : Nat) (xx : Int32) (nw : Nat) (nk : Nat) (mhasKept : Int32) (nt : Nat) (mtaped : Int32) (nr : Nat) (mrowMany : Int32) (mroundOf : Int32) (mroundFrom : Int32) (mouts : Int32) (nm : Nat) (mfromHour : Int32) (mtoHour : Int32) (ns : Nat) (mfrom : Int32) (mto : Int32) (msort : Int32) (misFault : Int32) (mdeep : Int32) (mcoded : Int32) (mlines : Int32) (nl : Nat) (nc : Nat) (nF : Nat) (np : Nat) (ntr : Nat) (nb : Nat) (mbestCost : Int32) (nso : Nat) (nsi : Nat) (nit : Nat) (nsh : Nat) (nsf : Nat) (nss : Nat) (nrc : Nat) (jr : Nat) (jd : Nat) (mnumber : Int32) (mwhose : Int32) (msize : Int32) (misParted : Int32) (fnrc : Nat → Int32) (hjr : jr ≤ 30) (hjd : jd < 7) : MI l G yX12_bodyFrom cX12_bodyFrom 5 (some .int) 4 0 0 [.ref h0, .int 0, .int 0, .int xx] [(h0, .inr (12, [.ref nw, .ref nk, .int mhasKept, .ref nt, .int mtaped, .ref nr, .int mrowMany, .int mroundOf, .int mroundFrom, .int mouts, .ref nm, .int mfromHour, .int mtoHour, .ref ns, .int mfrom, .int mto, .int msort, .int misFault, .int mdeep, .int mcoded, .int mlines, .ref nl, .ref nc, .ref nF, .ref np, .ref ntr, .ref nb, .int mbestCost, .ref nso, .ref nsi, .ref nit, .ref nsh, .ref nsf, .ref nss, .ref nrc, .int (nI jr), .int (nI jd), .int mnumber, .int mwhose, .int msize, .int misParted])), (nrc, .inl (G.2.1, 30, .inl fnrc))] (fun (r : Int32) (u : Nat × Int32 × (Nat → Int32)) => (True) ∧ (u.1 ≤ 30)) (fun u : Nat × Int32 × (Nat → Int32) => [(h0, .inr (12, [.ref nw, .ref nk, .int mhasKept, .ref nt, .int mtaped, .ref nr, .int mrowMany, .int mroundOf, .int mroundFrom, .int mouts, .ref nm, .int mfromHour, .int mtoHour, .ref ns, .int mfrom, .int mto, .int msort, .int misFault, .int mdeep, .int mcoded, .int mlines, .ref nl, .ref nc, .ref nF, .ref np, .ref ntr, .ref nb, .int mbestCost, .ref nso, .ref nsi, .ref nit, .ref nsh, .ref nsf, .ref nss, .ref nrc, .int (nI u.1), .int (nI jd), .int mnumber, .int mwhose, .int msize, .int u.2.1])), (nrc, .inl (G.2.1, 30, .inl u.2.2))]) := by
  refine MI.start (by decide +kernel) (Nat.le_of_ble_eq_true rfl) ?_
  intro p e s m below meth c A ls hC hK hP hD hS hA hl
  have hl : lv_has ls 5 [(0, .ref h0), (1, .int 0), (2, .int 0), (3, .int xx)] := hl
  obtain ⟨hx, hb, hr, hml, hB, hown, hlocks, hnm⟩ := id hC
  refine lv_iload_n hx hb dX12_bodyFrom_0 rfl (lv_at hl 1 rfl) ?_
  refine lv_istore (lv' := [(4, .int 0), (0, .ref h0), (1, .int 0), (2, .int 0), (3, .int xx)]) hx hb dX12_bodyFrom_1 hl (by decide) rfl (fun ls hl => ?_)
  refine lv_iload hx hb dX12_bodyFrom_3 (lv_at hl 0 rfl) ?_
  refine lv_iload_n hx hb dX12_bodyFrom_5 rfl (lv_at hl 3 rfl) ?_
  refine pS hC hK hl (m_hasOwn00 l G) si_X12_360 rfl rfl (Nat.le_of_ble_eq_true rfl) ⟨Nat.le_of_ble_eq_true rfl, Nat.le_of_ble_eq_true rfl⟩ ⟨by first | exact Nat.le_of_ble_eq_true rfl | exact Nat.zero_le _, by first | exact Nat.le_of_ble_eq_true rfl | exact Nat.zero_le _⟩ dX12_bodyFrom_6 (fun r5542 hr5542 => ?_)
  obtain rfl := hr5542
  refine lv_if_ne (tgt := 22) hx hb dX12_bodyFrom_9 (by decide) (fun _ => ?_) (fun c9 => absurd c9 (by decide))
  refine lv_aload_n hx hb dX12_bodyFrom_22 rfl (lv_at hl 1 rfl) ?_
  refine lv_iload hx hb dX12_bodyFrom_23 (lv_at hl 0 rfl) ?_
  refine lv_iload_n hx hb dX12_bodyFrom_25 rfl (lv_at hl 3 rfl) ?_
  refine lv_iload_n hx hb dX12_bodyFrom_26 rfl (lv_at hl 4 rfl) ?_
  refine iV (wr := []) hC hK hl hP hD hS hA (m_body00 l G h0 xx nw nk mhasKept nt mtaped nr mrowMany mroundOf mroundFrom mouts nm mfromHour mtoHour ns mfrom mto msort misFault mdeep mcoded mlines nl nc nF np ntr nb mbestCost nso nsi nit nsh nsf nss nrc jr jd mnumber mwhose msize misParted fnrc (by omega) (by omega)) si_X12_363 [0, 1] [] rfl rfl (by decide) rfl (by decide) (by decide) rfl rfl rfl rfl rfl (Nat.le_of_ble_eq_true rfl) ⟨Nat.le_of_ble_eq_true rfl, Nat.le_of_ble_eq_true rfl⟩ ⟨Nat.le_of_ble_eq_true rfl, Nat.le_of_ble_eq_true rfl⟩ dX12_bodyFrom_27 (fun r5544 u5545 H locs hr5544 hP hD hS => ?_)
  obtain ⟨jr15546, ip15547, gtrc5548⟩ := u5545
  try dsimp only at hr5544
  have hP : va_P G.1 vwCl [(h0, .inr (12, [.ref nw, .ref nk, .int mhasKept, .ref nt, .int mtaped, .ref nr, .int mrowMany, .int mroundOf, .int mroundFrom, .int mouts, .ref nm, .int mfromHour, .int mtoHour, .ref ns, .int mfrom, .int mto, .int msort, .int misFault, .int mdeep, .int mcoded, .int mlines, .ref nl, .ref nc, .ref nF, .ref np, .ref ntr, .ref nb, .int mbestCost, .ref nso, .ref nsi, .ref nit, .ref nsh, .ref nsf, .ref nss, .ref nrc, .int (nI jr15546), .int (nI jd), .int mnumber, .int mwhose, .int msize, .int ip15547])), (nrc, .inl (G.2.1, 30, .inl gtrc5548))] H := hP
  have hD : va_D A [(h0, .inr (12, [.ref nw, .ref nk, .int mhasKept, .ref nt, .int mtaped, .ref nr, .int mrowMany, .int mroundOf, .int mroundFrom, .int mouts, .ref nm, .int mfromHour, .int mtoHour, .ref ns, .int mfrom, .int mto, .int msort, .int misFault, .int mdeep, .int mcoded, .int mlines, .ref nl, .ref nc, .ref nF, .ref np, .ref ntr, .ref nb, .int mbestCost, .ref nso, .ref nsi, .ref nit, .ref nsh, .ref nsf, .ref nss, .ref nrc, .int (nI jr15546), .int (nI jd), .int mnumber, .int mwhose, .int msize, .int ip15547])), (nrc, .inl (G.2.1, 30, .inl gtrc5548))] := hD
  obtain ⟨hr5544, w5549⟩ := hr5544
  exact RI (v := r5544) hC hP hD hS [0, 1] (jr15546, ip15547, gtrc5548) rfl rfl (by decide) (⟨trivial, by omega⟩) rfl dX12_bodyFrom_30
set_option maxHeartbeats 4000000 in
set_option maxRecDepth 100000 in
theorem m_body40 (l : Launch) (G : GG) (h0 : Nat) (xx : Int32) (nw : Nat) (nk : Nat) (mhasKept : Int32) (nt : Nat) (mtaped : Int32) (nr : Nat) (mrowMany : Int32) (mroundOf : Int32) (mroundFrom : Int32) (mouts : Int32) (nm : Nat) (mfromHour : Int32) (mtoHour : Int32) (ns : Nat) (mfrom : Int32) (mto : Int32) (msort : Int32) (misFault : Int32) (mdeep : Int32) (mcoded : Int32) (mlines : Int32) (nl : Nat) (nc : Nat) (nF : Nat) (np : Nat) (ntr : Nat) (nb : Nat) (mbestCost : Int32) (nso : Nat) (nsi : Nat) (nit : Nat) (nsh : Nat) (nsf : Nat) (nss : Nat) (nrc : Nat) (jr : Nat) (jd : Nat) (mnumber : Int32) (mwhose : Int32) (msize : Int32) (misParted : Int32) (fnrc : Nat → Int32) (hjr : jr ≤ 30) (hjd : jd < 7) : MI l G yX12_body cX12_body 6 (some .int) 5 0 0 [.ref h0, .int 4, .int 0, .int xx] [(h0, .inr (12, [.ref nw, .ref nk, .int mhasKept, .ref nt, .int mtaped, .ref nr, .int mrowMany, .int mroundOf, .int mroundFrom, .int mouts, .ref nm, .int mfromHour, .int mtoHour, .ref ns, .int mfrom, .int mto, .int msort, .int misFault, .int mdeep, .int mcoded, .int mlines, .ref nl, .ref nc, .ref nF, .ref np, .ref ntr, .ref nb, .int mbestCost, .ref nso, .ref nsi, .ref nit, .ref nsh, .ref nsf, .ref nss, .ref nrc, .int (nI jr), .int (nI jd), .int mnumber, .int mwhose, .int msize, .int misParted])), (nrc, .inl (G.2.1, 30, .inl fnrc))] (fun (r : Int32) (u : Nat × Int32 × (Nat → Int32)) => (True) ∧ (u.1 ≤ 30)) (fun u : Nat × Int32 × (Nat → Int32) => [(h0, .inr (12, [.ref nw, .ref nk, .int mhasKept, .ref nt, .int mtaped, .ref nr, .int mrowMany, .int mroundOf, .int mroundFrom, .int mouts, .ref nm, .int mfromHour, .int mtoHour, .ref ns, .int mfrom, .int mto, .int msort, .int misFault, .int mdeep, .int mcoded, .int mlines, .ref nl, .ref nc, .ref nF, .ref np, .ref ntr, .ref nb, .int mbestCost, .ref nso, .ref nsi, .ref nit, .ref nsh, .ref nsf, .ref nss, .ref nrc, .int (nI u.1), .int (nI jd), .int mnumber, .int mwhose, .int msize, .int u.2.1])), (nrc, .inl (G.2.1, 30, .inl u.2.2))]) := by
  refine MI.start (by decide +kernel) (Nat.le_of_ble_eq_true rfl) ?_
  intro p e s m below meth c A ls hC hK hP hD hS hA hl
  have hl : lv_has ls 6 [(0, .ref h0), (1, .int 4), (2, .int 0), (3, .int xx)] := hl
  obtain ⟨hx, hb, hr, hml, hB, hown, hlocks, hnm⟩ := id hC
  refine lv_iconst (v := 4) hx hb dX12_body_0 (by decide) ?_
  refine lv_iload_n hx hb dX12_body_1 rfl (lv_at hl 1 rfl) ?_
  refine lv_imul hx hb dX12_body_2 ?_
  refine eqi (x1 := 16) (by decide) ?_
  refine lv_iload_n hx hb dX12_body_3 rfl (lv_at hl 2 rfl) ?_
  refine lv_iadd hx hb dX12_body_4 ?_
  refine eqi (x1 := 16) (by decide) ?_
  refine lv_tableIn (tgt := 274) hx hb dX12_body_5 (by decide) (by decide) rfl (by decide) ?_
  refine lv_aload_n hx hb dX12_body_274 rfl (lv_at hl 0 rfl) ?_
  refine lv_bipush (v := 50) hx hb dX12_body_275 (by decide) ?_
  refine vV (wr := []) hC hK hl hP hD hS hA (m_began l G h0 50 nw nk mhasKept nt mtaped nr mrowMany mroundOf mroundFrom mouts nm mfromHour mtoHour ns mfrom mto msort misFault mdeep mcoded mlines nl nc nF np ntr nb mbestCost nso nsi nit nsh nsf nss nrc jr (nI jd) mnumber mwhose msize misParted fnrc (by omega)) si_X12_366 [0, 1] [] rfl rfl (by decide) rfl (by decide) (by decide) rfl rfl rfl rfl rfl (Nat.le_of_ble_eq_true rfl) ⟨Nat.le_of_ble_eq_true rfl, Nat.le_of_ble_eq_true rfl⟩ ⟨Nat.le_of_ble_eq_true rfl, Nat.le_of_ble_eq_true rfl⟩ dX12_body_277 (fun u5551 H locs hr5550 hP hD hS => ?_)
  obtain ⟨jr15552, gtrc5553⟩ := u5551
  try dsimp only at hr5550
  have hP : va_P G.1 vwCl [(h0, .inr (12, [.ref nw, .ref nk, .int mhasKept, .ref nt, .int mtaped, .ref nr, .int mrowMany, .int mroundOf, .int mroundFrom, .int mouts, .ref nm, .int mfromHour, .int mtoHour, .ref ns, .int mfrom, .int mto, .int msort, .int misFault, .int mdeep, .int mcoded, .int mlines, .ref nl, .ref nc, .ref nF, .ref np, .ref ntr, .ref nb, .int mbestCost, .ref nso, .ref nsi, .ref nit, .ref nsh, .ref nsf, .ref nss, .ref nrc, .int (nI jr15552), .int (nI jd), .int mnumber, .int mwhose, .int msize, .int misParted])), (nrc, .inl (G.2.1, 30, .inl gtrc5553))] H := hP
  have hD : va_D A [(h0, .inr (12, [.ref nw, .ref nk, .int mhasKept, .ref nt, .int mtaped, .ref nr, .int mrowMany, .int mroundOf, .int mroundFrom, .int mouts, .ref nm, .int mfromHour, .int mtoHour, .ref ns, .int mfrom, .int mto, .int msort, .int misFault, .int mdeep, .int mcoded, .int mlines, .ref nl, .ref nc, .ref nF, .ref np, .ref ntr, .ref nb, .int mbestCost, .ref nso, .ref nsi, .ref nit, .ref nsh, .ref nsf, .ref nss, .ref nrc, .int (nI jr15552), .int (nI jd), .int mnumber, .int mwhose, .int msize, .int misParted])), (nrc, .inl (G.2.1, 30, .inl gtrc5553))] := hD
  have w5554 := hr5550
  refine lv_aload_n hx hb dX12_body_280 rfl (lv_at hl 0 rfl) ?_
  refine lv_iconst (v := 0) hx hb dX12_body_281 (by decide) ?_
  refine lv_iconst (v := 0) hx hb dX12_body_282 (by decide) ?_
  refine lv_iload_n hx hb dX12_body_283 rfl (lv_at hl 3 rfl) ?_
  refine iV (wr := []) hC hK hl hP hD hS hA (m_from00 l G h0 xx nw nk mhasKept nt mtaped nr mrowMany mroundOf mroundFrom mouts nm mfromHour mtoHour ns mfrom mto msort misFault mdeep mcoded mlines nl nc nF np ntr nb mbestCost nso nsi nit nsh nsf nss nrc jr15552 jd mnumber mwhose msize misParted gtrc5553 (by omega) (by omega)) si_X12_357 [0, 1] [] rfl rfl (by decide) rfl (by decide) (by decide) rfl rfl rfl rfl rfl (Nat.le_of_ble_eq_true rfl) ⟨Nat.le_of_ble_eq_true rfl, Nat.le_of_ble_eq_true rfl⟩ ⟨Nat.le_of_ble_eq_true rfl, Nat.le_of_ble_eq_true rfl⟩ dX12_body_284 (fun r5555 u5556 H locs hr5555 hP hD hS => ?_)
  obtain ⟨jr15557, ip15558, gtrc5559⟩ := u5556
  try dsimp only at hr5555
  have hP : va_P G.1 vwCl [(h0, .inr (12, [.ref nw, .ref nk, .int mhasKept, .ref nt, .int mtaped, .ref nr, .int mrowMany, .int mroundOf, .int mroundFrom, .int mouts, .ref nm, .int mfromHour, .int mtoHour, .ref ns, .int mfrom, .int mto, .int msort, .int misFault, .int mdeep, .int mcoded, .int mlines, .ref nl, .ref nc, .ref nF, .ref np, .ref ntr, .ref nb, .int mbestCost, .ref nso, .ref nsi, .ref nit, .ref nsh, .ref nsf, .ref nss, .ref nrc, .int (nI jr15557), .int (nI jd), .int mnumber, .int mwhose, .int msize, .int ip15558])), (nrc, .inl (G.2.1, 30, .inl gtrc5559))] H := hP
  have hD : va_D A [(h0, .inr (12, [.ref nw, .ref nk, .int mhasKept, .ref nt, .int mtaped, .ref nr, .int mrowMany, .int mroundOf, .int mroundFrom, .int mouts, .ref nm, .int mfromHour, .int mtoHour, .ref ns, .int mfrom, .int mto, .int msort, .int misFault, .int mdeep, .int mcoded, .int mlines, .ref nl, .ref nc, .ref nF, .ref np, .ref ntr, .ref nb, .int mbestCost, .ref nso, .ref nsi, .ref nit, .ref nsh, .ref nsf, .ref nss, .ref nrc, .int (nI jr15557), .int (nI jd), .int mnumber, .int mwhose, .int msize, .int ip15558])), (nrc, .inl (G.2.1, 30, .inl gtrc5559))] := hD
  obtain ⟨hr5555, w5560⟩ := hr5555
  refine lv_aload_n hx hb dX12_body_287 rfl (lv_at hl 0 rfl) ?_
  refine gf_X12_378 hC rfl hK hP 0 rfl rfl dX12_body_288 ?_
  refine lv_isub hx hb dX12_body_291 ?_
  exact RI (v := r5555 - mnumber) hC hP hD hS [0, 1] (jr15557, ip15558, gtrc5559) rfl rfl (by decide) (⟨trivial, by omega⟩) rfl dX12_body_292
set_option maxHeartbeats 4000000 in
set_option maxRecDepth 100000 in
theorem m_from40 (l : Launch) (G : GG) (h0 : Nat) (xx : Int32) (nw : Nat) (nk : Nat) (mhasKept : Int32) (nt : Nat) (mtaped : Int32) (nr : Nat) (mrowMany : Int32) (mroundOf : Int32) (mroundFrom : Int32) (mouts : Int32) (nm : Nat) (mfromHour : Int32) (mtoHour : Int32) (ns : Nat) (mfrom : Int32) (mto : Int32) (msort : Int32) (misFault : Int32) (mdeep : Int32) (mcoded : Int32) (mlines : Int32) (nl : Nat) (nc : Nat) (nF : Nat) (np : Nat) (ntr : Nat) (nb : Nat) (mbestCost : Int32) (nso : Nat) (nsi : Nat) (nit : Nat) (nsh : Nat) (nsf : Nat) (nss : Nat) (nrc : Nat) (jr : Nat) (jd : Nat) (mnumber : Int32) (mwhose : Int32) (msize : Int32) (misParted : Int32) (fnrc : Nat → Int32) (hjr : jr ≤ 30) (hjd : jd < 7) : MI l G yX12_bodyFrom cX12_bodyFrom 5 (some .int) 6 0 0 [.ref h0, .int 4, .int 0, .int xx] [(h0, .inr (12, [.ref nw, .ref nk, .int mhasKept, .ref nt, .int mtaped, .ref nr, .int mrowMany, .int mroundOf, .int mroundFrom, .int mouts, .ref nm, .int mfromHour, .int mtoHour, .ref ns, .int mfrom, .int mto, .int msort, .int misFault, .int mdeep, .int mcoded, .int mlines, .ref nl, .ref nc, .ref nF, .ref np, .ref ntr, .ref nb, .int mbestCost, .ref nso, .ref nsi, .ref nit, .ref nsh, .ref nsf, .ref nss, .ref nrc, .int (nI jr), .int (nI jd), .int mnumber, .int mwhose, .int msize, .int misParted])), (nrc, .inl (G.2.1, 30, .inl fnrc))] (fun (r : Int32) (u : Nat × Int32 × (Nat → Int32)) => (True) ∧ (u.1 ≤ 30)) (fun u : Nat × Int32 × (Nat → Int32) => [(h0, .inr (12, [.ref nw, .ref nk, .int mhasKept, .ref nt, .int mtaped, .ref nr, .int mrowMany, .int mroundOf, .int mroundFrom, .int mouts, .ref nm, .int mfromHour, .int mtoHour, .ref ns, .int mfrom, .int mto, .int msort, .int misFault, .int mdeep, .int mcoded, .int mlines, .ref nl, .ref nc, .ref nF, .ref np, .ref ntr, .ref nb, .int mbestCost, .ref nso, .ref nsi, .ref nit, .ref nsh, .ref nsf, .ref nss, .ref nrc, .int (nI u.1), .int (nI jd), .int mnumber, .int mwhose, .int msize, .int u.2.1])), (nrc, .inl (G.2.1, 30, .inl u.2.2))]) := by
  refine MI.start (by decide +kernel) (Nat.le_of_ble_eq_true rfl) ?_
  intro p e s m below meth c A ls hC hK hP hD hS hA hl
  have hl : lv_has ls 5 [(0, .ref h0), (1, .int 4), (2, .int 0), (3, .int xx)] := hl
  obtain ⟨hx, hb, hr, hml, hB, hown, hlocks, hnm⟩ := id hC
  refine lv_iload_n hx hb dX12_bodyFrom_0 rfl (lv_at hl 1 rfl) ?_
  refine lv_istore (lv' := [(4, .int 4), (0, .ref h0), (1, .int 4), (2, .int 0), (3, .int xx)]) hx hb dX12_bodyFrom_1 hl (by decide) rfl (fun ls hl => ?_)
  refine lv_iload hx hb dX12_bodyFrom_3 (lv_at hl 0 rfl) ?_
  refine lv_iload_n hx hb dX12_bodyFrom_5 rfl (lv_at hl 3 rfl) ?_
  refine pS hC hK hl (m_hasOwn40 l G) si_X12_360 rfl rfl (Nat.le_of_ble_eq_true rfl) ⟨Nat.le_of_ble_eq_true rfl, Nat.le_of_ble_eq_true rfl⟩ ⟨by first | exact Nat.le_of_ble_eq_true rfl | exact Nat.zero_le _, by first | exact Nat.le_of_ble_eq_true rfl | exact Nat.zero_le _⟩ dX12_bodyFrom_6 (fun r5561 hr5561 => ?_)
  obtain rfl := hr5561
  refine lv_if_ne (tgt := 22) hx hb dX12_bodyFrom_9 (by decide) (fun _ => ?_) (fun c9 => absurd c9 (by decide))
  refine lv_aload_n hx hb dX12_bodyFrom_22 rfl (lv_at hl 1 rfl) ?_
  refine lv_iload hx hb dX12_bodyFrom_23 (lv_at hl 0 rfl) ?_
  refine lv_iload_n hx hb dX12_bodyFrom_25 rfl (lv_at hl 3 rfl) ?_
  refine lv_iload_n hx hb dX12_bodyFrom_26 rfl (lv_at hl 4 rfl) ?_
  refine iV (wr := []) hC hK hl hP hD hS hA (m_body40 l G h0 xx nw nk mhasKept nt mtaped nr mrowMany mroundOf mroundFrom mouts nm mfromHour mtoHour ns mfrom mto msort misFault mdeep mcoded mlines nl nc nF np ntr nb mbestCost nso nsi nit nsh nsf nss nrc jr jd mnumber mwhose msize misParted fnrc (by omega) (by omega)) si_X12_363 [0, 1] [] rfl rfl (by decide) rfl (by decide) (by decide) rfl rfl rfl rfl rfl (Nat.le_of_ble_eq_true rfl) ⟨Nat.le_of_ble_eq_true rfl, Nat.le_of_ble_eq_true rfl⟩ ⟨Nat.le_of_ble_eq_true rfl, Nat.le_of_ble_eq_true rfl⟩ dX12_bodyFrom_27 (fun r5563 u5564 H locs hr5563 hP hD hS => ?_)
  obtain ⟨jr15565, ip15566, gtrc5567⟩ := u5564
  try dsimp only at hr5563
  have hP : va_P G.1 vwCl [(h0, .inr (12, [.ref nw, .ref nk, .int mhasKept, .ref nt, .int mtaped, .ref nr, .int mrowMany, .int mroundOf, .int mroundFrom, .int mouts, .ref nm, .int mfromHour, .int mtoHour, .ref ns, .int mfrom, .int mto, .int msort, .int misFault, .int mdeep, .int mcoded, .int mlines, .ref nl, .ref nc, .ref nF, .ref np, .ref ntr, .ref nb, .int mbestCost, .ref nso, .ref nsi, .ref nit, .ref nsh, .ref nsf, .ref nss, .ref nrc, .int (nI jr15565), .int (nI jd), .int mnumber, .int mwhose, .int msize, .int ip15566])), (nrc, .inl (G.2.1, 30, .inl gtrc5567))] H := hP
  have hD : va_D A [(h0, .inr (12, [.ref nw, .ref nk, .int mhasKept, .ref nt, .int mtaped, .ref nr, .int mrowMany, .int mroundOf, .int mroundFrom, .int mouts, .ref nm, .int mfromHour, .int mtoHour, .ref ns, .int mfrom, .int mto, .int msort, .int misFault, .int mdeep, .int mcoded, .int mlines, .ref nl, .ref nc, .ref nF, .ref np, .ref ntr, .ref nb, .int mbestCost, .ref nso, .ref nsi, .ref nit, .ref nsh, .ref nsf, .ref nss, .ref nrc, .int (nI jr15565), .int (nI jd), .int mnumber, .int mwhose, .int msize, .int ip15566])), (nrc, .inl (G.2.1, 30, .inl gtrc5567))] := hD
  obtain ⟨hr5563, w5568⟩ := hr5563
  exact RI (v := r5563) hC hP hD hS [0, 1] (jr15565, ip15566, gtrc5567) rfl rfl (by decide) (⟨trivial, by omega⟩) rfl dX12_bodyFrom_30
set_option maxHeartbeats 4000000 in
set_option maxRecDepth 100000 in
theorem m_body50 (l : Launch) (G : GG) (h0 : Nat) (xx : Int32) (nw : Nat) (nk : Nat) (mhasKept : Int32) (nt : Nat) (mtaped : Int32) (nr : Nat) (mrowMany : Int32) (mroundOf : Int32) (mroundFrom : Int32) (mouts : Int32) (nm : Nat) (mfromHour : Int32) (mtoHour : Int32) (ns : Nat) (mfrom : Int32) (mto : Int32) (msort : Int32) (misFault : Int32) (mdeep : Int32) (mcoded : Int32) (mlines : Int32) (nl : Nat) (nc : Nat) (nF : Nat) (np : Nat) (ntr : Nat) (nb : Nat) (mbestCost : Int32) (nso : Nat) (nsi : Nat) (nit : Nat) (nsh : Nat) (nsf : Nat) (nss : Nat) (nrc : Nat) (jr : Nat) (jd : Nat) (mnumber : Int32) (mwhose : Int32) (msize : Int32) (misParted : Int32) (fnrc : Nat → Int32) (hjr : jr ≤ 30) (hjd : jd < 7) : MI l G yX12_body cX12_body 6 (some .int) 7 0 0 [.ref h0, .int 5, .int 0, .int xx] [(h0, .inr (12, [.ref nw, .ref nk, .int mhasKept, .ref nt, .int mtaped, .ref nr, .int mrowMany, .int mroundOf, .int mroundFrom, .int mouts, .ref nm, .int mfromHour, .int mtoHour, .ref ns, .int mfrom, .int mto, .int msort, .int misFault, .int mdeep, .int mcoded, .int mlines, .ref nl, .ref nc, .ref nF, .ref np, .ref ntr, .ref nb, .int mbestCost, .ref nso, .ref nsi, .ref nit, .ref nsh, .ref nsf, .ref nss, .ref nrc, .int (nI jr), .int (nI jd), .int mnumber, .int mwhose, .int msize, .int misParted])), (nrc, .inl (G.2.1, 30, .inl fnrc))] (fun (r : Int32) (u : Nat × Int32 × (Nat → Int32)) => (True) ∧ (u.1 ≤ 30)) (fun u : Nat × Int32 × (Nat → Int32) => [(h0, .inr (12, [.ref nw, .ref nk, .int mhasKept, .ref nt, .int mtaped, .ref nr, .int mrowMany, .int mroundOf, .int mroundFrom, .int mouts, .ref nm, .int mfromHour, .int mtoHour, .ref ns, .int mfrom, .int mto, .int msort, .int misFault, .int mdeep, .int mcoded, .int mlines, .ref nl, .ref nc, .ref nF, .ref np, .ref ntr, .ref nb, .int mbestCost, .ref nso, .ref nsi, .ref nit, .ref nsh, .ref nsf, .ref nss, .ref nrc, .int (nI u.1), .int (nI jd), .int mnumber, .int mwhose, .int msize, .int u.2.1])), (nrc, .inl (G.2.1, 30, .inl u.2.2))]) := by
  refine MI.start (by decide +kernel) (Nat.le_of_ble_eq_true rfl) ?_
  intro p e s m below meth c A ls hC hK hP hD hS hA hl
  have hl : lv_has ls 6 [(0, .ref h0), (1, .int 5), (2, .int 0), (3, .int xx)] := hl
  obtain ⟨hx, hb, hr, hml, hB, hown, hlocks, hnm⟩ := id hC
  refine lv_iconst (v := 4) hx hb dX12_body_0 (by decide) ?_
  refine lv_iload_n hx hb dX12_body_1 rfl (lv_at hl 1 rfl) ?_
  refine lv_imul hx hb dX12_body_2 ?_
  refine eqi (x1 := 20) (by decide) ?_
  refine lv_iload_n hx hb dX12_body_3 rfl (lv_at hl 2 rfl) ?_
  refine lv_iadd hx hb dX12_body_4 ?_
  refine eqi (x1 := 20) (by decide) ?_
  refine lv_tableIn (tgt := 334) hx hb dX12_body_5 (by decide) (by decide) rfl (by decide) ?_
  refine lv_aload_n hx hb dX12_body_334 rfl (lv_at hl 0 rfl) ?_
  refine lv_bipush (v := 61) hx hb dX12_body_335 (by decide) ?_
  refine vV (wr := []) hC hK hl hP hD hS hA (m_began l G h0 61 nw nk mhasKept nt mtaped nr mrowMany mroundOf mroundFrom mouts nm mfromHour mtoHour ns mfrom mto msort misFault mdeep mcoded mlines nl nc nF np ntr nb mbestCost nso nsi nit nsh nsf nss nrc jr (nI jd) mnumber mwhose msize misParted fnrc (by omega)) si_X12_366 [0, 1] [] rfl rfl (by decide) rfl (by decide) (by decide) rfl rfl rfl rfl rfl (Nat.le_of_ble_eq_true rfl) ⟨Nat.le_of_ble_eq_true rfl, Nat.le_of_ble_eq_true rfl⟩ ⟨Nat.le_of_ble_eq_true rfl, Nat.le_of_ble_eq_true rfl⟩ dX12_body_337 (fun u5570 H locs hr5569 hP hD hS => ?_)
  obtain ⟨jr15571, gtrc5572⟩ := u5570
  try dsimp only at hr5569
  have hP : va_P G.1 vwCl [(h0, .inr (12, [.ref nw, .ref nk, .int mhasKept, .ref nt, .int mtaped, .ref nr, .int mrowMany, .int mroundOf, .int mroundFrom, .int mouts, .ref nm, .int mfromHour, .int mtoHour, .ref ns, .int mfrom, .int mto, .int msort, .int misFault, .int mdeep, .int mcoded, .int mlines, .ref nl, .ref nc, .ref nF, .ref np, .ref ntr, .ref nb, .int mbestCost, .ref nso, .ref nsi, .ref nit, .ref nsh, .ref nsf, .ref nss, .ref nrc, .int (nI jr15571), .int (nI jd), .int mnumber, .int mwhose, .int msize, .int misParted])), (nrc, .inl (G.2.1, 30, .inl gtrc5572))] H := hP
  have hD : va_D A [(h0, .inr (12, [.ref nw, .ref nk, .int mhasKept, .ref nt, .int mtaped, .ref nr, .int mrowMany, .int mroundOf, .int mroundFrom, .int mouts, .ref nm, .int mfromHour, .int mtoHour, .ref ns, .int mfrom, .int mto, .int msort, .int misFault, .int mdeep, .int mcoded, .int mlines, .ref nl, .ref nc, .ref nF, .ref np, .ref ntr, .ref nb, .int mbestCost, .ref nso, .ref nsi, .ref nit, .ref nsh, .ref nsf, .ref nss, .ref nrc, .int (nI jr15571), .int (nI jd), .int mnumber, .int mwhose, .int msize, .int misParted])), (nrc, .inl (G.2.1, 30, .inl gtrc5572))] := hD
  have w5573 := hr5569
  refine lv_aload_n hx hb dX12_body_340 rfl (lv_at hl 0 rfl) ?_
  refine lv_iconst (v := 4) hx hb dX12_body_341 (by decide) ?_
  refine lv_iconst (v := 0) hx hb dX12_body_342 (by decide) ?_
  refine lv_iload_n hx hb dX12_body_343 rfl (lv_at hl 3 rfl) ?_
  refine lv_aload_n hx hb dX12_body_344 rfl (lv_at hl 0 rfl) ?_
  refine gf_X12_375 hC rfl hK hP 0 rfl rfl dX12_body_345 ?_
  refine lv_iadd hx hb dX12_body_348 ?_
  refine iV (wr := []) hC hK hl hP hD hS hA (m_from40 l G h0 (xx + mwhose) nw nk mhasKept nt mtaped nr mrowMany mroundOf mroundFrom mouts nm mfromHour mtoHour ns mfrom mto msort misFault mdeep mcoded mlines nl nc nF np ntr nb mbestCost nso nsi nit nsh nsf nss nrc jr15571 jd mnumber mwhose msize misParted gtrc5572 (by omega) (by omega)) si_X12_357 [0, 1] [] rfl rfl (by decide) rfl (by decide) (by decide) rfl rfl rfl rfl rfl (Nat.le_of_ble_eq_true rfl) ⟨Nat.le_of_ble_eq_true rfl, Nat.le_of_ble_eq_true rfl⟩ ⟨Nat.le_of_ble_eq_true rfl, Nat.le_of_ble_eq_true rfl⟩ dX12_body_349 (fun r5574 u5575 H locs hr5574 hP hD hS => ?_)
  obtain ⟨jr15576, ip15577, gtrc5578⟩ := u5575
  try dsimp only at hr5574
  have hP : va_P G.1 vwCl [(h0, .inr (12, [.ref nw, .ref nk, .int mhasKept, .ref nt, .int mtaped, .ref nr, .int mrowMany, .int mroundOf, .int mroundFrom, .int mouts, .ref nm, .int mfromHour, .int mtoHour, .ref ns, .int mfrom, .int mto, .int msort, .int misFault, .int mdeep, .int mcoded, .int mlines, .ref nl, .ref nc, .ref nF, .ref np, .ref ntr, .ref nb, .int mbestCost, .ref nso, .ref nsi, .ref nit, .ref nsh, .ref nsf, .ref nss, .ref nrc, .int (nI jr15576), .int (nI jd), .int mnumber, .int mwhose, .int msize, .int ip15577])), (nrc, .inl (G.2.1, 30, .inl gtrc5578))] H := hP
  have hD : va_D A [(h0, .inr (12, [.ref nw, .ref nk, .int mhasKept, .ref nt, .int mtaped, .ref nr, .int mrowMany, .int mroundOf, .int mroundFrom, .int mouts, .ref nm, .int mfromHour, .int mtoHour, .ref ns, .int mfrom, .int mto, .int msort, .int misFault, .int mdeep, .int mcoded, .int mlines, .ref nl, .ref nc, .ref nF, .ref np, .ref ntr, .ref nb, .int mbestCost, .ref nso, .ref nsi, .ref nit, .ref nsh, .ref nsf, .ref nss, .ref nrc, .int (nI jr15576), .int (nI jd), .int mnumber, .int mwhose, .int msize, .int ip15577])), (nrc, .inl (G.2.1, 30, .inl gtrc5578))] := hD
  obtain ⟨hr5574, w5579⟩ := hr5574
  exact RI (v := r5574) hC hP hD hS [0, 1] (jr15576, ip15577, gtrc5578) rfl rfl (by decide) (⟨trivial, by omega⟩) rfl dX12_body_352
set_option maxHeartbeats 4000000 in
set_option maxRecDepth 100000 in
theorem m_from50 (l : Launch) (G : GG) (h0 : Nat) (xx : Int32) (nw : Nat) (nk : Nat) (mhasKept : Int32) (nt : Nat) (mtaped : Int32) (nr : Nat) (mrowMany : Int32) (mroundOf : Int32) (mroundFrom : Int32) (mouts : Int32) (nm : Nat) (mfromHour : Int32) (mtoHour : Int32) (ns : Nat) (mfrom : Int32) (mto : Int32) (msort : Int32) (misFault : Int32) (mdeep : Int32) (mcoded : Int32) (mlines : Int32) (nl : Nat) (nc : Nat) (nF : Nat) (np : Nat) (ntr : Nat) (nb : Nat) (mbestCost : Int32) (nso : Nat) (nsi : Nat) (nit : Nat) (nsh : Nat) (nsf : Nat) (nss : Nat) (nrc : Nat) (jr : Nat) (jd : Nat) (mnumber : Int32) (mwhose : Int32) (msize : Int32) (misParted : Int32) (fnrc : Nat → Int32) (hjr : jr ≤ 30) (hjd : jd < 7) : MI l G yX12_bodyFrom cX12_bodyFrom 5 (some .int) 8 0 0 [.ref h0, .int 5, .int 0, .int xx] [(h0, .inr (12, [.ref nw, .ref nk, .int mhasKept, .ref nt, .int mtaped, .ref nr, .int mrowMany, .int mroundOf, .int mroundFrom, .int mouts, .ref nm, .int mfromHour, .int mtoHour, .ref ns, .int mfrom, .int mto, .int msort, .int misFault, .int mdeep, .int mcoded, .int mlines, .ref nl, .ref nc, .ref nF, .ref np, .ref ntr, .ref nb, .int mbestCost, .ref nso, .ref nsi, .ref nit, .ref nsh, .ref nsf, .ref nss, .ref nrc, .int (nI jr), .int (nI jd), .int mnumber, .int mwhose, .int msize, .int misParted])), (nrc, .inl (G.2.1, 30, .inl fnrc))] (fun (r : Int32) (u : Nat × Int32 × (Nat → Int32)) => (True) ∧ (u.1 ≤ 30)) (fun u : Nat × Int32 × (Nat → Int32) => [(h0, .inr (12, [.ref nw, .ref nk, .int mhasKept, .ref nt, .int mtaped, .ref nr, .int mrowMany, .int mroundOf, .int mroundFrom, .int mouts, .ref nm, .int mfromHour, .int mtoHour, .ref ns, .int mfrom, .int mto, .int msort, .int misFault, .int mdeep, .int mcoded, .int mlines, .ref nl, .ref nc, .ref nF, .ref np, .ref ntr, .ref nb, .int mbestCost, .ref nso, .ref nsi, .ref nit, .ref nsh, .ref nsf, .ref nss, .ref nrc, .int (nI u.1), .int (nI jd), .int mnumber, .int mwhose, .int msize, .int u.2.1])), (nrc, .inl (G.2.1, 30, .inl u.2.2))]) := by
  refine MI.start (by decide +kernel) (Nat.le_of_ble_eq_true rfl) ?_
  intro p e s m below meth c A ls hC hK hP hD hS hA hl
  have hl : lv_has ls 5 [(0, .ref h0), (1, .int 5), (2, .int 0), (3, .int xx)] := hl
  obtain ⟨hx, hb, hr, hml, hB, hown, hlocks, hnm⟩ := id hC
  refine lv_iload_n hx hb dX12_bodyFrom_0 rfl (lv_at hl 1 rfl) ?_
  refine lv_istore (lv' := [(4, .int 5), (0, .ref h0), (1, .int 5), (2, .int 0), (3, .int xx)]) hx hb dX12_bodyFrom_1 hl (by decide) rfl (fun ls hl => ?_)
  refine lv_iload hx hb dX12_bodyFrom_3 (lv_at hl 0 rfl) ?_
  refine lv_iload_n hx hb dX12_bodyFrom_5 rfl (lv_at hl 3 rfl) ?_
  refine pS hC hK hl (m_hasOwn50 l G) si_X12_360 rfl rfl (Nat.le_of_ble_eq_true rfl) ⟨Nat.le_of_ble_eq_true rfl, Nat.le_of_ble_eq_true rfl⟩ ⟨by first | exact Nat.le_of_ble_eq_true rfl | exact Nat.zero_le _, by first | exact Nat.le_of_ble_eq_true rfl | exact Nat.zero_le _⟩ dX12_bodyFrom_6 (fun r5580 hr5580 => ?_)
  obtain rfl := hr5580
  refine lv_if_ne (tgt := 22) hx hb dX12_bodyFrom_9 (by decide) (fun _ => ?_) (fun c9 => absurd c9 (by decide))
  refine lv_aload_n hx hb dX12_bodyFrom_22 rfl (lv_at hl 1 rfl) ?_
  refine lv_iload hx hb dX12_bodyFrom_23 (lv_at hl 0 rfl) ?_
  refine lv_iload_n hx hb dX12_bodyFrom_25 rfl (lv_at hl 3 rfl) ?_
  refine lv_iload_n hx hb dX12_bodyFrom_26 rfl (lv_at hl 4 rfl) ?_
  refine iV (wr := []) hC hK hl hP hD hS hA (m_body50 l G h0 xx nw nk mhasKept nt mtaped nr mrowMany mroundOf mroundFrom mouts nm mfromHour mtoHour ns mfrom mto msort misFault mdeep mcoded mlines nl nc nF np ntr nb mbestCost nso nsi nit nsh nsf nss nrc jr jd mnumber mwhose msize misParted fnrc (by omega) (by omega)) si_X12_363 [0, 1] [] rfl rfl (by decide) rfl (by decide) (by decide) rfl rfl rfl rfl rfl (Nat.le_of_ble_eq_true rfl) ⟨Nat.le_of_ble_eq_true rfl, Nat.le_of_ble_eq_true rfl⟩ ⟨Nat.le_of_ble_eq_true rfl, Nat.le_of_ble_eq_true rfl⟩ dX12_bodyFrom_27 (fun r5582 u5583 H locs hr5582 hP hD hS => ?_)
  obtain ⟨jr15584, ip15585, gtrc5586⟩ := u5583
  try dsimp only at hr5582
  have hP : va_P G.1 vwCl [(h0, .inr (12, [.ref nw, .ref nk, .int mhasKept, .ref nt, .int mtaped, .ref nr, .int mrowMany, .int mroundOf, .int mroundFrom, .int mouts, .ref nm, .int mfromHour, .int mtoHour, .ref ns, .int mfrom, .int mto, .int msort, .int misFault, .int mdeep, .int mcoded, .int mlines, .ref nl, .ref nc, .ref nF, .ref np, .ref ntr, .ref nb, .int mbestCost, .ref nso, .ref nsi, .ref nit, .ref nsh, .ref nsf, .ref nss, .ref nrc, .int (nI jr15584), .int (nI jd), .int mnumber, .int mwhose, .int msize, .int ip15585])), (nrc, .inl (G.2.1, 30, .inl gtrc5586))] H := hP
  have hD : va_D A [(h0, .inr (12, [.ref nw, .ref nk, .int mhasKept, .ref nt, .int mtaped, .ref nr, .int mrowMany, .int mroundOf, .int mroundFrom, .int mouts, .ref nm, .int mfromHour, .int mtoHour, .ref ns, .int mfrom, .int mto, .int msort, .int misFault, .int mdeep, .int mcoded, .int mlines, .ref nl, .ref nc, .ref nF, .ref np, .ref ntr, .ref nb, .int mbestCost, .ref nso, .ref nsi, .ref nit, .ref nsh, .ref nsf, .ref nss, .ref nrc, .int (nI jr15584), .int (nI jd), .int mnumber, .int mwhose, .int msize, .int ip15585])), (nrc, .inl (G.2.1, 30, .inl gtrc5586))] := hD
  obtain ⟨hr5582, w5587⟩ := hr5582
  exact RI (v := r5582) hC hP hD hS [0, 1] (jr15584, ip15585, gtrc5586) rfl rfl (by decide) (⟨trivial, by omega⟩) rfl dX12_bodyFrom_30
set_option maxHeartbeats 4000000 in
set_option maxRecDepth 100000 in
theorem m_from10 (l : Launch) (G : GG) (h0 : Nat) (xx : Int32) (nw : Nat) (nk : Nat) (mhasKept : Int32) (nt : Nat) (mtaped : Int32) (nr : Nat) (mrowMany : Int32) (mroundOf : Int32) (mroundFrom : Int32) (mouts : Int32) (nm : Nat) (mfromHour : Int32) (mtoHour : Int32) (ns : Nat) (mfrom : Int32) (mto : Int32) (msort : Int32) (misFault : Int32) (mdeep : Int32) (mcoded : Int32) (mlines : Int32) (nl : Nat) (nc : Nat) (nF : Nat) (np : Nat) (ntr : Nat) (nb : Nat) (mbestCost : Int32) (nso : Nat) (nsi : Nat) (nit : Nat) (nsh : Nat) (nsf : Nat) (nss : Nat) (nrc : Nat) (jr : Nat) (jd : Nat) (mnumber : Int32) (mwhose : Int32) (msize : Int32) (misParted : Int32) (fnrc : Nat → Int32) (hjr : jr ≤ 30) (hjd : jd < 7) : MI l G yX12_bodyFrom cX12_bodyFrom 5 (some .int) 12 0 0 [.ref h0, .int 1, .int 0, .int xx] [(h0, .inr (12, [.ref nw, .ref nk, .int mhasKept, .ref nt, .int mtaped, .ref nr, .int mrowMany, .int mroundOf, .int mroundFrom, .int mouts, .ref nm, .int mfromHour, .int mtoHour, .ref ns, .int mfrom, .int mto, .int msort, .int misFault, .int mdeep, .int mcoded, .int mlines, .ref nl, .ref nc, .ref nF, .ref np, .ref ntr, .ref nb, .int mbestCost, .ref nso, .ref nsi, .ref nit, .ref nsh, .ref nsf, .ref nss, .ref nrc, .int (nI jr), .int (nI jd), .int mnumber, .int mwhose, .int msize, .int misParted])), (nrc, .inl (G.2.1, 30, .inl fnrc))] (fun (r : Int32) (u : Nat × Int32 × (Nat → Int32)) => (True) ∧ (u.1 ≤ 30)) (fun u : Nat × Int32 × (Nat → Int32) => [(h0, .inr (12, [.ref nw, .ref nk, .int mhasKept, .ref nt, .int mtaped, .ref nr, .int mrowMany, .int mroundOf, .int mroundFrom, .int mouts, .ref nm, .int mfromHour, .int mtoHour, .ref ns, .int mfrom, .int mto, .int msort, .int misFault, .int mdeep, .int mcoded, .int mlines, .ref nl, .ref nc, .ref nF, .ref np, .ref ntr, .ref nb, .int mbestCost, .ref nso, .ref nsi, .ref nit, .ref nsh, .ref nsf, .ref nss, .ref nrc, .int (nI u.1), .int (nI jd), .int mnumber, .int mwhose, .int msize, .int u.2.1])), (nrc, .inl (G.2.1, 30, .inl u.2.2))]) := by
  refine MI.start (by decide +kernel) (Nat.le_of_ble_eq_true rfl) ?_
  intro p e s m below meth c A ls hC hK hP hD hS hA hl
  have hl : lv_has ls 5 [(0, .ref h0), (1, .int 1), (2, .int 0), (3, .int xx)] := hl
  obtain ⟨hx, hb, hr, hml, hB, hown, hlocks, hnm⟩ := id hC
  refine lv_iload_n hx hb dX12_bodyFrom_0 rfl (lv_at hl 1 rfl) ?_
  refine lv_istore (lv' := [(4, .int 1), (0, .ref h0), (1, .int 1), (2, .int 0), (3, .int xx)]) hx hb dX12_bodyFrom_1 hl (by decide) rfl (fun ls hl => ?_)
  refine lv_iload hx hb dX12_bodyFrom_3 (lv_at hl 0 rfl) ?_
  refine lv_iload_n hx hb dX12_bodyFrom_5 rfl (lv_at hl 3 rfl) ?_
  refine pS hC hK hl (m_hasOwn10 l G) si_X12_360 rfl rfl (Nat.le_of_ble_eq_true rfl) ⟨Nat.le_of_ble_eq_true rfl, Nat.le_of_ble_eq_true rfl⟩ ⟨by first | exact Nat.le_of_ble_eq_true rfl | exact Nat.zero_le _, by first | exact Nat.le_of_ble_eq_true rfl | exact Nat.zero_le _⟩ dX12_bodyFrom_6 (fun r5588 hr5588 => ?_)
  obtain rfl := hr5588
  refine lv_if_ne (tgt := 22) hx hb dX12_bodyFrom_9 (by decide) (fun c9 => absurd (by decide) c9) (fun _ => ?_)
  refine lv_iload hx hb dX12_bodyFrom_12 (lv_at hl 0 rfl) ?_
  refine pS hC hK hl (m_above1 l G) si_X12_348 rfl rfl (Nat.le_of_ble_eq_true rfl) ⟨Nat.le_of_ble_eq_true rfl, Nat.le_of_ble_eq_true rfl⟩ ⟨by first | exact Nat.le_of_ble_eq_true rfl | exact Nat.zero_le _, by first | exact Nat.le_of_ble_eq_true rfl | exact Nat.zero_le _⟩ dX12_bodyFrom_14 (fun r5590 hr5590 => ?_)
  obtain rfl := hr5590
  refine lv_istore (lv' := [(4, .int 0), (0, .ref h0), (1, .int 1), (2, .int 0), (3, .int xx)]) hx hb dX12_bodyFrom_17 hl (by decide) rfl (fun ls hl => ?_)
  refine lv_goto (tgt := 3) hx hb dX12_bodyFrom_19 (by decide) ?_
  refine lv_iload hx hb dX12_bodyFrom_3 (lv_at hl 0 rfl) ?_
  refine lv_iload_n hx hb dX12_bodyFrom_5 rfl (lv_at hl 3 rfl) ?_
  refine pS hC hK hl (m_hasOwn00 l G) si_X12_360 rfl rfl (Nat.le_of_ble_eq_true rfl) ⟨Nat.le_of_ble_eq_true rfl, Nat.le_of_ble_eq_true rfl⟩ ⟨by first | exact Nat.le_of_ble_eq_true rfl | exact Nat.zero_le _, by first | exact Nat.le_of_ble_eq_true rfl | exact Nat.zero_le _⟩ dX12_bodyFrom_6 (fun r5592 hr5592 => ?_)
  obtain rfl := hr5592
  refine lv_if_ne (tgt := 22) hx hb dX12_bodyFrom_9 (by decide) (fun _ => ?_) (fun c9 => absurd c9 (by decide))
  refine lv_aload_n hx hb dX12_bodyFrom_22 rfl (lv_at hl 1 rfl) ?_
  refine lv_iload hx hb dX12_bodyFrom_23 (lv_at hl 0 rfl) ?_
  refine lv_iload_n hx hb dX12_bodyFrom_25 rfl (lv_at hl 3 rfl) ?_
  refine lv_iload_n hx hb dX12_bodyFrom_26 rfl (lv_at hl 4 rfl) ?_
  refine iV (wr := []) hC hK hl hP hD hS hA (m_body00 l G h0 xx nw nk mhasKept nt mtaped nr mrowMany mroundOf mroundFrom mouts nm mfromHour mtoHour ns mfrom mto msort misFault mdeep mcoded mlines nl nc nF np ntr nb mbestCost nso nsi nit nsh nsf nss nrc jr jd mnumber mwhose msize misParted fnrc (by omega) (by omega)) si_X12_363 [0, 1] [] rfl rfl (by decide) rfl (by decide) (by decide) rfl rfl rfl rfl rfl (Nat.le_of_ble_eq_true rfl) ⟨Nat.le_of_ble_eq_true rfl, Nat.le_of_ble_eq_true rfl⟩ ⟨Nat.le_of_ble_eq_true rfl, Nat.le_of_ble_eq_true rfl⟩ dX12_bodyFrom_27 (fun r5594 u5595 H locs hr5594 hP hD hS => ?_)
  obtain ⟨jr15596, ip15597, gtrc5598⟩ := u5595
  try dsimp only at hr5594
  have hP : va_P G.1 vwCl [(h0, .inr (12, [.ref nw, .ref nk, .int mhasKept, .ref nt, .int mtaped, .ref nr, .int mrowMany, .int mroundOf, .int mroundFrom, .int mouts, .ref nm, .int mfromHour, .int mtoHour, .ref ns, .int mfrom, .int mto, .int msort, .int misFault, .int mdeep, .int mcoded, .int mlines, .ref nl, .ref nc, .ref nF, .ref np, .ref ntr, .ref nb, .int mbestCost, .ref nso, .ref nsi, .ref nit, .ref nsh, .ref nsf, .ref nss, .ref nrc, .int (nI jr15596), .int (nI jd), .int mnumber, .int mwhose, .int msize, .int ip15597])), (nrc, .inl (G.2.1, 30, .inl gtrc5598))] H := hP
  have hD : va_D A [(h0, .inr (12, [.ref nw, .ref nk, .int mhasKept, .ref nt, .int mtaped, .ref nr, .int mrowMany, .int mroundOf, .int mroundFrom, .int mouts, .ref nm, .int mfromHour, .int mtoHour, .ref ns, .int mfrom, .int mto, .int msort, .int misFault, .int mdeep, .int mcoded, .int mlines, .ref nl, .ref nc, .ref nF, .ref np, .ref ntr, .ref nb, .int mbestCost, .ref nso, .ref nsi, .ref nit, .ref nsh, .ref nsf, .ref nss, .ref nrc, .int (nI jr15596), .int (nI jd), .int mnumber, .int mwhose, .int msize, .int ip15597])), (nrc, .inl (G.2.1, 30, .inl gtrc5598))] := hD
  obtain ⟨hr5594, w5599⟩ := hr5594
  exact RI (v := r5594) hC hP hD hS [0, 1] (jr15596, ip15597, gtrc5598) rfl rfl (by decide) (⟨trivial, by omega⟩) rfl dX12_bodyFrom_30
set_option maxHeartbeats 4000000 in
set_option maxRecDepth 100000 in
theorem m_from20 (l : Launch) (G : GG) (h0 : Nat) (xx : Int32) (nw : Nat) (nk : Nat) (mhasKept : Int32) (nt : Nat) (mtaped : Int32) (nr : Nat) (mrowMany : Int32) (mroundOf : Int32) (mroundFrom : Int32) (mouts : Int32) (nm : Nat) (mfromHour : Int32) (mtoHour : Int32) (ns : Nat) (mfrom : Int32) (mto : Int32) (msort : Int32) (misFault : Int32) (mdeep : Int32) (mcoded : Int32) (mlines : Int32) (nl : Nat) (nc : Nat) (nF : Nat) (np : Nat) (ntr : Nat) (nb : Nat) (mbestCost : Int32) (nso : Nat) (nsi : Nat) (nit : Nat) (nsh : Nat) (nsf : Nat) (nss : Nat) (nrc : Nat) (jr : Nat) (jd : Nat) (mnumber : Int32) (mwhose : Int32) (msize : Int32) (misParted : Int32) (fnrc : Nat → Int32) (hjr : jr ≤ 30) (hjd : jd < 7) : MI l G yX12_bodyFrom cX12_bodyFrom 5 (some .int) 12 0 0 [.ref h0, .int 2, .int 0, .int xx] [(h0, .inr (12, [.ref nw, .ref nk, .int mhasKept, .ref nt, .int mtaped, .ref nr, .int mrowMany, .int mroundOf, .int mroundFrom, .int mouts, .ref nm, .int mfromHour, .int mtoHour, .ref ns, .int mfrom, .int mto, .int msort, .int misFault, .int mdeep, .int mcoded, .int mlines, .ref nl, .ref nc, .ref nF, .ref np, .ref ntr, .ref nb, .int mbestCost, .ref nso, .ref nsi, .ref nit, .ref nsh, .ref nsf, .ref nss, .ref nrc, .int (nI jr), .int (nI jd), .int mnumber, .int mwhose, .int msize, .int misParted])), (nrc, .inl (G.2.1, 30, .inl fnrc))] (fun (r : Int32) (u : Nat × Int32 × (Nat → Int32)) => (True) ∧ (u.1 ≤ 30)) (fun u : Nat × Int32 × (Nat → Int32) => [(h0, .inr (12, [.ref nw, .ref nk, .int mhasKept, .ref nt, .int mtaped, .ref nr, .int mrowMany, .int mroundOf, .int mroundFrom, .int mouts, .ref nm, .int mfromHour, .int mtoHour, .ref ns, .int mfrom, .int mto, .int msort, .int misFault, .int mdeep, .int mcoded, .int mlines, .ref nl, .ref nc, .ref nF, .ref np, .ref ntr, .ref nb, .int mbestCost, .ref nso, .ref nsi, .ref nit, .ref nsh, .ref nsf, .ref nss, .ref nrc, .int (nI u.1), .int (nI jd), .int mnumber, .int mwhose, .int msize, .int u.2.1])), (nrc, .inl (G.2.1, 30, .inl u.2.2))]) := by
  refine MI.start (by decide +kernel) (Nat.le_of_ble_eq_true rfl) ?_
  intro p e s m below meth c A ls hC hK hP hD hS hA hl
  have hl : lv_has ls 5 [(0, .ref h0), (1, .int 2), (2, .int 0), (3, .int xx)] := hl
  obtain ⟨hx, hb, hr, hml, hB, hown, hlocks, hnm⟩ := id hC
  refine lv_iload_n hx hb dX12_bodyFrom_0 rfl (lv_at hl 1 rfl) ?_
  refine lv_istore (lv' := [(4, .int 2), (0, .ref h0), (1, .int 2), (2, .int 0), (3, .int xx)]) hx hb dX12_bodyFrom_1 hl (by decide) rfl (fun ls hl => ?_)
  refine lv_iload hx hb dX12_bodyFrom_3 (lv_at hl 0 rfl) ?_
  refine lv_iload_n hx hb dX12_bodyFrom_5 rfl (lv_at hl 3 rfl) ?_
  refine pS hC hK hl (m_hasOwn20 l G) si_X12_360 rfl rfl (Nat.le_of_ble_eq_true rfl) ⟨Nat.le_of_ble_eq_true rfl, Nat.le_of_ble_eq_true rfl⟩ ⟨by first | exact Nat.le_of_ble_eq_true rfl | exact Nat.zero_le _, by first | exact Nat.le_of_ble_eq_true rfl | exact Nat.zero_le _⟩ dX12_bodyFrom_6 (fun r5600 hr5600 => ?_)
  obtain rfl := hr5600
  refine lv_if_ne (tgt := 22) hx hb dX12_bodyFrom_9 (by decide) (fun c9 => absurd (by decide) c9) (fun _ => ?_)
  refine lv_iload hx hb dX12_bodyFrom_12 (lv_at hl 0 rfl) ?_
  refine pS hC hK hl (m_above2 l G) si_X12_348 rfl rfl (Nat.le_of_ble_eq_true rfl) ⟨Nat.le_of_ble_eq_true rfl, Nat.le_of_ble_eq_true rfl⟩ ⟨by first | exact Nat.le_of_ble_eq_true rfl | exact Nat.zero_le _, by first | exact Nat.le_of_ble_eq_true rfl | exact Nat.zero_le _⟩ dX12_bodyFrom_14 (fun r5602 hr5602 => ?_)
  obtain rfl := hr5602
  refine lv_istore (lv' := [(4, .int 0), (0, .ref h0), (1, .int 2), (2, .int 0), (3, .int xx)]) hx hb dX12_bodyFrom_17 hl (by decide) rfl (fun ls hl => ?_)
  refine lv_goto (tgt := 3) hx hb dX12_bodyFrom_19 (by decide) ?_
  refine lv_iload hx hb dX12_bodyFrom_3 (lv_at hl 0 rfl) ?_
  refine lv_iload_n hx hb dX12_bodyFrom_5 rfl (lv_at hl 3 rfl) ?_
  refine pS hC hK hl (m_hasOwn00 l G) si_X12_360 rfl rfl (Nat.le_of_ble_eq_true rfl) ⟨Nat.le_of_ble_eq_true rfl, Nat.le_of_ble_eq_true rfl⟩ ⟨by first | exact Nat.le_of_ble_eq_true rfl | exact Nat.zero_le _, by first | exact Nat.le_of_ble_eq_true rfl | exact Nat.zero_le _⟩ dX12_bodyFrom_6 (fun r5604 hr5604 => ?_)
  obtain rfl := hr5604
  refine lv_if_ne (tgt := 22) hx hb dX12_bodyFrom_9 (by decide) (fun _ => ?_) (fun c9 => absurd c9 (by decide))
  refine lv_aload_n hx hb dX12_bodyFrom_22 rfl (lv_at hl 1 rfl) ?_
  refine lv_iload hx hb dX12_bodyFrom_23 (lv_at hl 0 rfl) ?_
  refine lv_iload_n hx hb dX12_bodyFrom_25 rfl (lv_at hl 3 rfl) ?_
  refine lv_iload_n hx hb dX12_bodyFrom_26 rfl (lv_at hl 4 rfl) ?_
  refine iV (wr := []) hC hK hl hP hD hS hA (m_body00 l G h0 xx nw nk mhasKept nt mtaped nr mrowMany mroundOf mroundFrom mouts nm mfromHour mtoHour ns mfrom mto msort misFault mdeep mcoded mlines nl nc nF np ntr nb mbestCost nso nsi nit nsh nsf nss nrc jr jd mnumber mwhose msize misParted fnrc (by omega) (by omega)) si_X12_363 [0, 1] [] rfl rfl (by decide) rfl (by decide) (by decide) rfl rfl rfl rfl rfl (Nat.le_of_ble_eq_true rfl) ⟨Nat.le_of_ble_eq_true rfl, Nat.le_of_ble_eq_true rfl⟩ ⟨Nat.le_of_ble_eq_true rfl, Nat.le_of_ble_eq_true rfl⟩ dX12_bodyFrom_27 (fun r5606 u5607 H locs hr5606 hP hD hS => ?_)
  obtain ⟨jr15608, ip15609, gtrc5610⟩ := u5607
  try dsimp only at hr5606
  have hP : va_P G.1 vwCl [(h0, .inr (12, [.ref nw, .ref nk, .int mhasKept, .ref nt, .int mtaped, .ref nr, .int mrowMany, .int mroundOf, .int mroundFrom, .int mouts, .ref nm, .int mfromHour, .int mtoHour, .ref ns, .int mfrom, .int mto, .int msort, .int misFault, .int mdeep, .int mcoded, .int mlines, .ref nl, .ref nc, .ref nF, .ref np, .ref ntr, .ref nb, .int mbestCost, .ref nso, .ref nsi, .ref nit, .ref nsh, .ref nsf, .ref nss, .ref nrc, .int (nI jr15608), .int (nI jd), .int mnumber, .int mwhose, .int msize, .int ip15609])), (nrc, .inl (G.2.1, 30, .inl gtrc5610))] H := hP
  have hD : va_D A [(h0, .inr (12, [.ref nw, .ref nk, .int mhasKept, .ref nt, .int mtaped, .ref nr, .int mrowMany, .int mroundOf, .int mroundFrom, .int mouts, .ref nm, .int mfromHour, .int mtoHour, .ref ns, .int mfrom, .int mto, .int msort, .int misFault, .int mdeep, .int mcoded, .int mlines, .ref nl, .ref nc, .ref nF, .ref np, .ref ntr, .ref nb, .int mbestCost, .ref nso, .ref nsi, .ref nit, .ref nsh, .ref nsf, .ref nss, .ref nrc, .int (nI jr15608), .int (nI jd), .int mnumber, .int mwhose, .int msize, .int ip15609])), (nrc, .inl (G.2.1, 30, .inl gtrc5610))] := hD
  obtain ⟨hr5606, w5611⟩ := hr5606
  exact RI (v := r5606) hC hP hD hS [0, 1] (jr15608, ip15609, gtrc5610) rfl rfl (by decide) (⟨trivial, by omega⟩) rfl dX12_bodyFrom_30
set_option maxHeartbeats 4000000 in
set_option maxRecDepth 100000 in
theorem m_from30 (l : Launch) (G : GG) (h0 : Nat) (xx : Int32) (nw : Nat) (nk : Nat) (mhasKept : Int32) (nt : Nat) (mtaped : Int32) (nr : Nat) (mrowMany : Int32) (mroundOf : Int32) (mroundFrom : Int32) (mouts : Int32) (nm : Nat) (mfromHour : Int32) (mtoHour : Int32) (ns : Nat) (mfrom : Int32) (mto : Int32) (msort : Int32) (misFault : Int32) (mdeep : Int32) (mcoded : Int32) (mlines : Int32) (nl : Nat) (nc : Nat) (nF : Nat) (np : Nat) (ntr : Nat) (nb : Nat) (mbestCost : Int32) (nso : Nat) (nsi : Nat) (nit : Nat) (nsh : Nat) (nsf : Nat) (nss : Nat) (nrc : Nat) (jr : Nat) (jd : Nat) (mnumber : Int32) (mwhose : Int32) (msize : Int32) (misParted : Int32) (fnrc : Nat → Int32) (hjr : jr ≤ 30) (hjd : jd < 7) : MI l G yX12_bodyFrom cX12_bodyFrom 5 (some .int) 12 0 0 [.ref h0, .int 3, .int 0, .int xx] [(h0, .inr (12, [.ref nw, .ref nk, .int mhasKept, .ref nt, .int mtaped, .ref nr, .int mrowMany, .int mroundOf, .int mroundFrom, .int mouts, .ref nm, .int mfromHour, .int mtoHour, .ref ns, .int mfrom, .int mto, .int msort, .int misFault, .int mdeep, .int mcoded, .int mlines, .ref nl, .ref nc, .ref nF, .ref np, .ref ntr, .ref nb, .int mbestCost, .ref nso, .ref nsi, .ref nit, .ref nsh, .ref nsf, .ref nss, .ref nrc, .int (nI jr), .int (nI jd), .int mnumber, .int mwhose, .int msize, .int misParted])), (nrc, .inl (G.2.1, 30, .inl fnrc))] (fun (r : Int32) (u : Nat × Int32 × (Nat → Int32)) => (True) ∧ (u.1 ≤ 30)) (fun u : Nat × Int32 × (Nat → Int32) => [(h0, .inr (12, [.ref nw, .ref nk, .int mhasKept, .ref nt, .int mtaped, .ref nr, .int mrowMany, .int mroundOf, .int mroundFrom, .int mouts, .ref nm, .int mfromHour, .int mtoHour, .ref ns, .int mfrom, .int mto, .int msort, .int misFault, .int mdeep, .int mcoded, .int mlines, .ref nl, .ref nc, .ref nF, .ref np, .ref ntr, .ref nb, .int mbestCost, .ref nso, .ref nsi, .ref nit, .ref nsh, .ref nsf, .ref nss, .ref nrc, .int (nI u.1), .int (nI jd), .int mnumber, .int mwhose, .int msize, .int u.2.1])), (nrc, .inl (G.2.1, 30, .inl u.2.2))]) := by
  refine MI.start (by decide +kernel) (Nat.le_of_ble_eq_true rfl) ?_
  intro p e s m below meth c A ls hC hK hP hD hS hA hl
  have hl : lv_has ls 5 [(0, .ref h0), (1, .int 3), (2, .int 0), (3, .int xx)] := hl
  obtain ⟨hx, hb, hr, hml, hB, hown, hlocks, hnm⟩ := id hC
  refine lv_iload_n hx hb dX12_bodyFrom_0 rfl (lv_at hl 1 rfl) ?_
  refine lv_istore (lv' := [(4, .int 3), (0, .ref h0), (1, .int 3), (2, .int 0), (3, .int xx)]) hx hb dX12_bodyFrom_1 hl (by decide) rfl (fun ls hl => ?_)
  refine lv_iload hx hb dX12_bodyFrom_3 (lv_at hl 0 rfl) ?_
  refine lv_iload_n hx hb dX12_bodyFrom_5 rfl (lv_at hl 3 rfl) ?_
  refine pS hC hK hl (m_hasOwn30 l G) si_X12_360 rfl rfl (Nat.le_of_ble_eq_true rfl) ⟨Nat.le_of_ble_eq_true rfl, Nat.le_of_ble_eq_true rfl⟩ ⟨by first | exact Nat.le_of_ble_eq_true rfl | exact Nat.zero_le _, by first | exact Nat.le_of_ble_eq_true rfl | exact Nat.zero_le _⟩ dX12_bodyFrom_6 (fun r5612 hr5612 => ?_)
  obtain rfl := hr5612
  refine lv_if_ne (tgt := 22) hx hb dX12_bodyFrom_9 (by decide) (fun c9 => absurd (by decide) c9) (fun _ => ?_)
  refine lv_iload hx hb dX12_bodyFrom_12 (lv_at hl 0 rfl) ?_
  refine pS hC hK hl (m_above3 l G) si_X12_348 rfl rfl (Nat.le_of_ble_eq_true rfl) ⟨Nat.le_of_ble_eq_true rfl, Nat.le_of_ble_eq_true rfl⟩ ⟨by first | exact Nat.le_of_ble_eq_true rfl | exact Nat.zero_le _, by first | exact Nat.le_of_ble_eq_true rfl | exact Nat.zero_le _⟩ dX12_bodyFrom_14 (fun r5614 hr5614 => ?_)
  obtain rfl := hr5614
  refine lv_istore (lv' := [(4, .int 1), (0, .ref h0), (1, .int 3), (2, .int 0), (3, .int xx)]) hx hb dX12_bodyFrom_17 hl (by decide) rfl (fun ls hl => ?_)
  refine lv_goto (tgt := 3) hx hb dX12_bodyFrom_19 (by decide) ?_
  refine lv_iload hx hb dX12_bodyFrom_3 (lv_at hl 0 rfl) ?_
  refine lv_iload_n hx hb dX12_bodyFrom_5 rfl (lv_at hl 3 rfl) ?_
  refine pS hC hK hl (m_hasOwn10 l G) si_X12_360 rfl rfl (Nat.le_of_ble_eq_true rfl) ⟨Nat.le_of_ble_eq_true rfl, Nat.le_of_ble_eq_true rfl⟩ ⟨by first | exact Nat.le_of_ble_eq_true rfl | exact Nat.zero_le _, by first | exact Nat.le_of_ble_eq_true rfl | exact Nat.zero_le _⟩ dX12_bodyFrom_6 (fun r5616 hr5616 => ?_)
  obtain rfl := hr5616
  refine lv_if_ne (tgt := 22) hx hb dX12_bodyFrom_9 (by decide) (fun c9 => absurd (by decide) c9) (fun _ => ?_)
  refine lv_iload hx hb dX12_bodyFrom_12 (lv_at hl 0 rfl) ?_
  refine pS hC hK hl (m_above1 l G) si_X12_348 rfl rfl (Nat.le_of_ble_eq_true rfl) ⟨Nat.le_of_ble_eq_true rfl, Nat.le_of_ble_eq_true rfl⟩ ⟨by first | exact Nat.le_of_ble_eq_true rfl | exact Nat.zero_le _, by first | exact Nat.le_of_ble_eq_true rfl | exact Nat.zero_le _⟩ dX12_bodyFrom_14 (fun r5618 hr5618 => ?_)
  obtain rfl := hr5618
  refine lv_istore (lv' := [(4, .int 0), (0, .ref h0), (1, .int 3), (2, .int 0), (3, .int xx)]) hx hb dX12_bodyFrom_17 hl (by decide) rfl (fun ls hl => ?_)
  refine lv_goto (tgt := 3) hx hb dX12_bodyFrom_19 (by decide) ?_
  refine lv_iload hx hb dX12_bodyFrom_3 (lv_at hl 0 rfl) ?_
  refine lv_iload_n hx hb dX12_bodyFrom_5 rfl (lv_at hl 3 rfl) ?_
  refine pS hC hK hl (m_hasOwn00 l G) si_X12_360 rfl rfl (Nat.le_of_ble_eq_true rfl) ⟨Nat.le_of_ble_eq_true rfl, Nat.le_of_ble_eq_true rfl⟩ ⟨by first | exact Nat.le_of_ble_eq_true rfl | exact Nat.zero_le _, by first | exact Nat.le_of_ble_eq_true rfl | exact Nat.zero_le _⟩ dX12_bodyFrom_6 (fun r5620 hr5620 => ?_)
  obtain rfl := hr5620
  refine lv_if_ne (tgt := 22) hx hb dX12_bodyFrom_9 (by decide) (fun _ => ?_) (fun c9 => absurd c9 (by decide))
  refine lv_aload_n hx hb dX12_bodyFrom_22 rfl (lv_at hl 1 rfl) ?_
  refine lv_iload hx hb dX12_bodyFrom_23 (lv_at hl 0 rfl) ?_
  refine lv_iload_n hx hb dX12_bodyFrom_25 rfl (lv_at hl 3 rfl) ?_
  refine lv_iload_n hx hb dX12_bodyFrom_26 rfl (lv_at hl 4 rfl) ?_
  refine iV (wr := []) hC hK hl hP hD hS hA (m_body00 l G h0 xx nw nk mhasKept nt mtaped nr mrowMany mroundOf mroundFrom mouts nm mfromHour mtoHour ns mfrom mto msort misFault mdeep mcoded mlines nl nc nF np ntr nb mbestCost nso nsi nit nsh nsf nss nrc jr jd mnumber mwhose msize misParted fnrc (by omega) (by omega)) si_X12_363 [0, 1] [] rfl rfl (by decide) rfl (by decide) (by decide) rfl rfl rfl rfl rfl (Nat.le_of_ble_eq_true rfl) ⟨Nat.le_of_ble_eq_true rfl, Nat.le_of_ble_eq_true rfl⟩ ⟨Nat.le_of_ble_eq_true rfl, Nat.le_of_ble_eq_true rfl⟩ dX12_bodyFrom_27 (fun r5622 u5623 H locs hr5622 hP hD hS => ?_)
  obtain ⟨jr15624, ip15625, gtrc5626⟩ := u5623
  try dsimp only at hr5622
  have hP : va_P G.1 vwCl [(h0, .inr (12, [.ref nw, .ref nk, .int mhasKept, .ref nt, .int mtaped, .ref nr, .int mrowMany, .int mroundOf, .int mroundFrom, .int mouts, .ref nm, .int mfromHour, .int mtoHour, .ref ns, .int mfrom, .int mto, .int msort, .int misFault, .int mdeep, .int mcoded, .int mlines, .ref nl, .ref nc, .ref nF, .ref np, .ref ntr, .ref nb, .int mbestCost, .ref nso, .ref nsi, .ref nit, .ref nsh, .ref nsf, .ref nss, .ref nrc, .int (nI jr15624), .int (nI jd), .int mnumber, .int mwhose, .int msize, .int ip15625])), (nrc, .inl (G.2.1, 30, .inl gtrc5626))] H := hP
  have hD : va_D A [(h0, .inr (12, [.ref nw, .ref nk, .int mhasKept, .ref nt, .int mtaped, .ref nr, .int mrowMany, .int mroundOf, .int mroundFrom, .int mouts, .ref nm, .int mfromHour, .int mtoHour, .ref ns, .int mfrom, .int mto, .int msort, .int misFault, .int mdeep, .int mcoded, .int mlines, .ref nl, .ref nc, .ref nF, .ref np, .ref ntr, .ref nb, .int mbestCost, .ref nso, .ref nsi, .ref nit, .ref nsh, .ref nsf, .ref nss, .ref nrc, .int (nI jr15624), .int (nI jd), .int mnumber, .int mwhose, .int msize, .int ip15625])), (nrc, .inl (G.2.1, 30, .inl gtrc5626))] := hD
  obtain ⟨hr5622, w5627⟩ := hr5622
  exact RI (v := r5622) hC hP hD hS [0, 1] (jr15624, ip15625, gtrc5626) rfl rfl (by decide) (⟨trivial, by omega⟩) rfl dX12_bodyFrom_30
set_option maxHeartbeats 4000000 in
set_option maxRecDepth 100000 in
theorem m_from60 (l : Launch) (G : GG) (h0 : Nat) (xx : Int32) (nw : Nat) (nk : Nat) (mhasKept : Int32) (nt : Nat) (mtaped : Int32) (nr : Nat) (mrowMany : Int32) (mroundOf : Int32) (mroundFrom : Int32) (mouts : Int32) (nm : Nat) (mfromHour : Int32) (mtoHour : Int32) (ns : Nat) (mfrom : Int32) (mto : Int32) (msort : Int32) (misFault : Int32) (mdeep : Int32) (mcoded : Int32) (mlines : Int32) (nl : Nat) (nc : Nat) (nF : Nat) (np : Nat) (ntr : Nat) (nb : Nat) (mbestCost : Int32) (nso : Nat) (nsi : Nat) (nit : Nat) (nsh : Nat) (nsf : Nat) (nss : Nat) (nrc : Nat) (jr : Nat) (jd : Nat) (mnumber : Int32) (mwhose : Int32) (msize : Int32) (misParted : Int32) (fnrc : Nat → Int32) (hjr : jr ≤ 30) (hjd : jd < 7) : MI l G yX12_bodyFrom cX12_bodyFrom 5 (some .int) 12 0 0 [.ref h0, .int 6, .int 0, .int xx] [(h0, .inr (12, [.ref nw, .ref nk, .int mhasKept, .ref nt, .int mtaped, .ref nr, .int mrowMany, .int mroundOf, .int mroundFrom, .int mouts, .ref nm, .int mfromHour, .int mtoHour, .ref ns, .int mfrom, .int mto, .int msort, .int misFault, .int mdeep, .int mcoded, .int mlines, .ref nl, .ref nc, .ref nF, .ref np, .ref ntr, .ref nb, .int mbestCost, .ref nso, .ref nsi, .ref nit, .ref nsh, .ref nsf, .ref nss, .ref nrc, .int (nI jr), .int (nI jd), .int mnumber, .int mwhose, .int msize, .int misParted])), (nrc, .inl (G.2.1, 30, .inl fnrc))] (fun (r : Int32) (u : Nat × Int32 × (Nat → Int32)) => (True) ∧ (u.1 ≤ 30)) (fun u : Nat × Int32 × (Nat → Int32) => [(h0, .inr (12, [.ref nw, .ref nk, .int mhasKept, .ref nt, .int mtaped, .ref nr, .int mrowMany, .int mroundOf, .int mroundFrom, .int mouts, .ref nm, .int mfromHour, .int mtoHour, .ref ns, .int mfrom, .int mto, .int msort, .int misFault, .int mdeep, .int mcoded, .int mlines, .ref nl, .ref nc, .ref nF, .ref np, .ref ntr, .ref nb, .int mbestCost, .ref nso, .ref nsi, .ref nit, .ref nsh, .ref nsf, .ref nss, .ref nrc, .int (nI u.1), .int (nI jd), .int mnumber, .int mwhose, .int msize, .int u.2.1])), (nrc, .inl (G.2.1, 30, .inl u.2.2))]) := by
  refine MI.start (by decide +kernel) (Nat.le_of_ble_eq_true rfl) ?_
  intro p e s m below meth c A ls hC hK hP hD hS hA hl
  have hl : lv_has ls 5 [(0, .ref h0), (1, .int 6), (2, .int 0), (3, .int xx)] := hl
  obtain ⟨hx, hb, hr, hml, hB, hown, hlocks, hnm⟩ := id hC
  refine lv_iload_n hx hb dX12_bodyFrom_0 rfl (lv_at hl 1 rfl) ?_
  refine lv_istore (lv' := [(4, .int 6), (0, .ref h0), (1, .int 6), (2, .int 0), (3, .int xx)]) hx hb dX12_bodyFrom_1 hl (by decide) rfl (fun ls hl => ?_)
  refine lv_iload hx hb dX12_bodyFrom_3 (lv_at hl 0 rfl) ?_
  refine lv_iload_n hx hb dX12_bodyFrom_5 rfl (lv_at hl 3 rfl) ?_
  refine pS hC hK hl (m_hasOwn60 l G) si_X12_360 rfl rfl (Nat.le_of_ble_eq_true rfl) ⟨Nat.le_of_ble_eq_true rfl, Nat.le_of_ble_eq_true rfl⟩ ⟨by first | exact Nat.le_of_ble_eq_true rfl | exact Nat.zero_le _, by first | exact Nat.le_of_ble_eq_true rfl | exact Nat.zero_le _⟩ dX12_bodyFrom_6 (fun r5628 hr5628 => ?_)
  obtain rfl := hr5628
  refine lv_if_ne (tgt := 22) hx hb dX12_bodyFrom_9 (by decide) (fun c9 => absurd (by decide) c9) (fun _ => ?_)
  refine lv_iload hx hb dX12_bodyFrom_12 (lv_at hl 0 rfl) ?_
  refine pS hC hK hl (m_above6 l G) si_X12_348 rfl rfl (Nat.le_of_ble_eq_true rfl) ⟨Nat.le_of_ble_eq_true rfl, Nat.le_of_ble_eq_true rfl⟩ ⟨by first | exact Nat.le_of_ble_eq_true rfl | exact Nat.zero_le _, by first | exact Nat.le_of_ble_eq_true rfl | exact Nat.zero_le _⟩ dX12_bodyFrom_14 (fun r5630 hr5630 => ?_)
  obtain rfl := hr5630
  refine lv_istore (lv' := [(4, .int 0), (0, .ref h0), (1, .int 6), (2, .int 0), (3, .int xx)]) hx hb dX12_bodyFrom_17 hl (by decide) rfl (fun ls hl => ?_)
  refine lv_goto (tgt := 3) hx hb dX12_bodyFrom_19 (by decide) ?_
  refine lv_iload hx hb dX12_bodyFrom_3 (lv_at hl 0 rfl) ?_
  refine lv_iload_n hx hb dX12_bodyFrom_5 rfl (lv_at hl 3 rfl) ?_
  refine pS hC hK hl (m_hasOwn00 l G) si_X12_360 rfl rfl (Nat.le_of_ble_eq_true rfl) ⟨Nat.le_of_ble_eq_true rfl, Nat.le_of_ble_eq_true rfl⟩ ⟨by first | exact Nat.le_of_ble_eq_true rfl | exact Nat.zero_le _, by first | exact Nat.le_of_ble_eq_true rfl | exact Nat.zero_le _⟩ dX12_bodyFrom_6 (fun r5632 hr5632 => ?_)
  obtain rfl := hr5632
  refine lv_if_ne (tgt := 22) hx hb dX12_bodyFrom_9 (by decide) (fun _ => ?_) (fun c9 => absurd c9 (by decide))
  refine lv_aload_n hx hb dX12_bodyFrom_22 rfl (lv_at hl 1 rfl) ?_
  refine lv_iload hx hb dX12_bodyFrom_23 (lv_at hl 0 rfl) ?_
  refine lv_iload_n hx hb dX12_bodyFrom_25 rfl (lv_at hl 3 rfl) ?_
  refine lv_iload_n hx hb dX12_bodyFrom_26 rfl (lv_at hl 4 rfl) ?_
  refine iV (wr := []) hC hK hl hP hD hS hA (m_body00 l G h0 xx nw nk mhasKept nt mtaped nr mrowMany mroundOf mroundFrom mouts nm mfromHour mtoHour ns mfrom mto msort misFault mdeep mcoded mlines nl nc nF np ntr nb mbestCost nso nsi nit nsh nsf nss nrc jr jd mnumber mwhose msize misParted fnrc (by omega) (by omega)) si_X12_363 [0, 1] [] rfl rfl (by decide) rfl (by decide) (by decide) rfl rfl rfl rfl rfl (Nat.le_of_ble_eq_true rfl) ⟨Nat.le_of_ble_eq_true rfl, Nat.le_of_ble_eq_true rfl⟩ ⟨Nat.le_of_ble_eq_true rfl, Nat.le_of_ble_eq_true rfl⟩ dX12_bodyFrom_27 (fun r5634 u5635 H locs hr5634 hP hD hS => ?_)
  obtain ⟨jr15636, ip15637, gtrc5638⟩ := u5635
  try dsimp only at hr5634
  have hP : va_P G.1 vwCl [(h0, .inr (12, [.ref nw, .ref nk, .int mhasKept, .ref nt, .int mtaped, .ref nr, .int mrowMany, .int mroundOf, .int mroundFrom, .int mouts, .ref nm, .int mfromHour, .int mtoHour, .ref ns, .int mfrom, .int mto, .int msort, .int misFault, .int mdeep, .int mcoded, .int mlines, .ref nl, .ref nc, .ref nF, .ref np, .ref ntr, .ref nb, .int mbestCost, .ref nso, .ref nsi, .ref nit, .ref nsh, .ref nsf, .ref nss, .ref nrc, .int (nI jr15636), .int (nI jd), .int mnumber, .int mwhose, .int msize, .int ip15637])), (nrc, .inl (G.2.1, 30, .inl gtrc5638))] H := hP
  have hD : va_D A [(h0, .inr (12, [.ref nw, .ref nk, .int mhasKept, .ref nt, .int mtaped, .ref nr, .int mrowMany, .int mroundOf, .int mroundFrom, .int mouts, .ref nm, .int mfromHour, .int mtoHour, .ref ns, .int mfrom, .int mto, .int msort, .int misFault, .int mdeep, .int mcoded, .int mlines, .ref nl, .ref nc, .ref nF, .ref np, .ref ntr, .ref nb, .int mbestCost, .ref nso, .ref nsi, .ref nit, .ref nsh, .ref nsf, .ref nss, .ref nrc, .int (nI jr15636), .int (nI jd), .int mnumber, .int mwhose, .int msize, .int ip15637])), (nrc, .inl (G.2.1, 30, .inl gtrc5638))] := hD
  obtain ⟨hr5634, w5639⟩ := hr5634
  exact RI (v := r5634) hC hP hD hS [0, 1] (jr15636, ip15637, gtrc5638) rfl rfl (by decide) (⟨trivial, by omega⟩) rfl dX12_bodyFrom_30
set_option maxHeartbeats 4000000 in
set_option maxRecDepth 100000 in
theorem m_dealt0 (l : Launch) (G : GG) (h0 : Nat) (xx : Int32) (nw : Nat) (nk : Nat) (mhasKept : Int32) (nt : Nat) (mtaped : Int32) (nr : Nat) (mrowMany : Int32) (mroundOf : Int32) (mroundFrom : Int32) (mouts : Int32) (nm : Nat) (mfromHour : Int32) (mtoHour : Int32) (ns : Nat) (mfrom : Int32) (mto : Int32) (msort : Int32) (misFault : Int32) (mdeep : Int32) (mcoded : Int32) (mlines : Int32) (nl : Nat) (nc : Nat) (nF : Nat) (np : Nat) (ntr : Nat) (nb : Nat) (mbestCost : Int32) (nso : Nat) (nsi : Nat) (nit : Nat) (nsh : Nat) (nsf : Nat) (nss : Nat) (nrc : Nat) (jr : Nat) (jd : Nat) (mnumber : Int32) (mwhose : Int32) (msize : Int32) (misParted : Int32) (fnrc : Nat → Int32) (hjr : jr ≤ 30) (hjd : jd < 7) : MI l G yX12_dealt cX12_dealt 3 (some .int) 14 0 0 [.ref h0, .int 0, .int xx] [(h0, .inr (12, [.ref nw, .ref nk, .int mhasKept, .ref nt, .int mtaped, .ref nr, .int mrowMany, .int mroundOf, .int mroundFrom, .int mouts, .ref nm, .int mfromHour, .int mtoHour, .ref ns, .int mfrom, .int mto, .int msort, .int misFault, .int mdeep, .int mcoded, .int mlines, .ref nl, .ref nc, .ref nF, .ref np, .ref ntr, .ref nb, .int mbestCost, .ref nso, .ref nsi, .ref nit, .ref nsh, .ref nsf, .ref nss, .ref nrc, .int (nI jr), .int (nI jd), .int mnumber, .int mwhose, .int msize, .int misParted])), (nrc, .inl (G.2.1, 30, .inl fnrc))] (fun (r : Int32) (u : Nat × Int32 × (Nat → Int32)) => (True) ∧ (u.1 ≤ 30)) (fun u : Nat × Int32 × (Nat → Int32) => [(h0, .inr (12, [.ref nw, .ref nk, .int mhasKept, .ref nt, .int mtaped, .ref nr, .int mrowMany, .int mroundOf, .int mroundFrom, .int mouts, .ref nm, .int mfromHour, .int mtoHour, .ref ns, .int mfrom, .int mto, .int msort, .int misFault, .int mdeep, .int mcoded, .int mlines, .ref nl, .ref nc, .ref nF, .ref np, .ref ntr, .ref nb, .int mbestCost, .ref nso, .ref nsi, .ref nit, .ref nsh, .ref nsf, .ref nss, .ref nrc, .int (nI u.1), .int (nI jd), .int mnumber, .int mwhose, .int msize, .int u.2.1])), (nrc, .inl (G.2.1, 30, .inl u.2.2))]) := by
  refine MI.start (by decide +kernel) (Nat.le_of_ble_eq_true rfl) ?_
  intro p e s m below meth c A ls hC hK hP hD hS hA hl
  have hl : lv_has ls 3 [(0, .ref h0), (1, .int 0), (2, .int xx)] := hl
  obtain ⟨hx, hb, hr, hml, hB, hown, hlocks, hnm⟩ := id hC
  refine lv_aload_n hx hb dX12_dealt_0 rfl (lv_at hl 0 rfl) ?_
  refine lv_aload_n hx hb dX12_dealt_1 rfl (lv_at hl 0 rfl) ?_
  refine gf_X12_354 hC rfl hK hP 0 rfl rfl dX12_dealt_2 ?_
  refine lv_iload_n hx hb dX12_dealt_5 rfl (lv_at hl 1 rfl) ?_
  refine lv_iload_n hx hb dX12_dealt_6 rfl (lv_at hl 2 rfl) ?_
  rcases (show jd = 0 ∨ jd = 1 ∨ jd = 2 ∨ jd = 3 ∨ jd = 4 ∨ jd = 5 ∨ jd = 6 by omega) with rfl | rfl | rfl | rfl | rfl | rfl | rfl
  · refine iV (wr := []) hC hK hl hP hD hS hA (m_from00 l G h0 xx nw nk mhasKept nt mtaped nr mrowMany mroundOf mroundFrom mouts nm mfromHour mtoHour ns mfrom mto msort misFault mdeep mcoded mlines nl nc nF np ntr nb mbestCost nso nsi nit nsh nsf nss nrc jr 0 mnumber mwhose msize misParted fnrc (by omega) (by omega)) si_X12_357 [0, 1] [] rfl rfl (by decide) rfl (by decide) (by decide) rfl rfl rfl rfl rfl (Nat.le_of_ble_eq_true rfl) ⟨Nat.le_of_ble_eq_true rfl, Nat.le_of_ble_eq_true rfl⟩ ⟨Nat.le_of_ble_eq_true rfl, Nat.le_of_ble_eq_true rfl⟩ dX12_dealt_7 (fun r5640 u5641 H locs hr5640 hP hD hS => ?_)
    obtain ⟨jr15642, ip15643, gtrc5644⟩ := u5641
    try dsimp only at hr5640
    have hP : va_P G.1 vwCl [(h0, .inr (12, [.ref nw, .ref nk, .int mhasKept, .ref nt, .int mtaped, .ref nr, .int mrowMany, .int mroundOf, .int mroundFrom, .int mouts, .ref nm, .int mfromHour, .int mtoHour, .ref ns, .int mfrom, .int mto, .int msort, .int misFault, .int mdeep, .int mcoded, .int mlines, .ref nl, .ref nc, .ref nF, .ref np, .ref ntr, .ref nb, .int mbestCost, .ref nso, .ref nsi, .ref nit, .ref nsh, .ref nsf, .ref nss, .ref nrc, .int (nI jr15642), .int 0, .int mnumber, .int mwhose, .int msize, .int ip15643])), (nrc, .inl (G.2.1, 30, .inl gtrc5644))] H := hP
    have hD : va_D A [(h0, .inr (12, [.ref nw, .ref nk, .int mhasKept, .ref nt, .int mtaped, .ref nr, .int mrowMany, .int mroundOf, .int mroundFrom, .int mouts, .ref nm, .int mfromHour, .int mtoHour, .ref ns, .int mfrom, .int mto, .int msort, .int misFault, .int mdeep, .int mcoded, .int mlines, .ref nl, .ref nc, .ref nF, .ref np, .ref ntr, .ref nb, .int mbestCost, .ref nso, .ref nsi, .ref nit, .ref nsh, .ref nsf, .ref nss, .ref nrc, .int (nI jr15642), .int 0, .int mnumber, .int mwhose, .int msize, .int ip15643])), (nrc, .inl (G.2.1, 30, .inl gtrc5644))] := hD
    obtain ⟨hr5640, w5645⟩ := hr5640
    exact RI (v := r5640) hC hP hD hS [0, 1] (jr15642, ip15643, gtrc5644) rfl rfl (by decide) (⟨trivial, by omega⟩) rfl dX12_dealt_10
  · refine iV (wr := []) hC hK hl hP hD hS hA (m_from10 l G h0 xx nw nk mhasKept nt mtaped nr mrowMany mroundOf mroundFrom mouts nm mfromHour mtoHour ns mfrom mto msort misFault mdeep mcoded mlines nl nc nF np ntr nb mbestCost nso nsi nit nsh nsf nss nrc jr 1 mnumber mwhose msize misParted fnrc (by omega) (by omega)) si_X12_357 [0, 1] [] rfl rfl (by decide) rfl (by decide) (by decide) rfl rfl rfl rfl rfl (Nat.le_of_ble_eq_true rfl) ⟨Nat.le_of_ble_eq_true rfl, Nat.le_of_ble_eq_true rfl⟩ ⟨Nat.le_of_ble_eq_true rfl, Nat.le_of_ble_eq_true rfl⟩ dX12_dealt_7 (fun r5646 u5647 H locs hr5646 hP hD hS => ?_)
    obtain ⟨jr15648, ip15649, gtrc5650⟩ := u5647
    try dsimp only at hr5646
    have hP : va_P G.1 vwCl [(h0, .inr (12, [.ref nw, .ref nk, .int mhasKept, .ref nt, .int mtaped, .ref nr, .int mrowMany, .int mroundOf, .int mroundFrom, .int mouts, .ref nm, .int mfromHour, .int mtoHour, .ref ns, .int mfrom, .int mto, .int msort, .int misFault, .int mdeep, .int mcoded, .int mlines, .ref nl, .ref nc, .ref nF, .ref np, .ref ntr, .ref nb, .int mbestCost, .ref nso, .ref nsi, .ref nit, .ref nsh, .ref nsf, .ref nss, .ref nrc, .int (nI jr15648), .int 1, .int mnumber, .int mwhose, .int msize, .int ip15649])), (nrc, .inl (G.2.1, 30, .inl gtrc5650))] H := hP
    have hD : va_D A [(h0, .inr (12, [.ref nw, .ref nk, .int mhasKept, .ref nt, .int mtaped, .ref nr, .int mrowMany, .int mroundOf, .int mroundFrom, .int mouts, .ref nm, .int mfromHour, .int mtoHour, .ref ns, .int mfrom, .int mto, .int msort, .int misFault, .int mdeep, .int mcoded, .int mlines, .ref nl, .ref nc, .ref nF, .ref np, .ref ntr, .ref nb, .int mbestCost, .ref nso, .ref nsi, .ref nit, .ref nsh, .ref nsf, .ref nss, .ref nrc, .int (nI jr15648), .int 1, .int mnumber, .int mwhose, .int msize, .int ip15649])), (nrc, .inl (G.2.1, 30, .inl gtrc5650))] := hD
    obtain ⟨hr5646, w5651⟩ := hr5646
    exact RI (v := r5646) hC hP hD hS [0, 1] (jr15648, ip15649, gtrc5650) rfl rfl (by decide) (⟨trivial, by omega⟩) rfl dX12_dealt_10
  · refine iV (wr := []) hC hK hl hP hD hS hA (m_from20 l G h0 xx nw nk mhasKept nt mtaped nr mrowMany mroundOf mroundFrom mouts nm mfromHour mtoHour ns mfrom mto msort misFault mdeep mcoded mlines nl nc nF np ntr nb mbestCost nso nsi nit nsh nsf nss nrc jr 2 mnumber mwhose msize misParted fnrc (by omega) (by omega)) si_X12_357 [0, 1] [] rfl rfl (by decide) rfl (by decide) (by decide) rfl rfl rfl rfl rfl (Nat.le_of_ble_eq_true rfl) ⟨Nat.le_of_ble_eq_true rfl, Nat.le_of_ble_eq_true rfl⟩ ⟨Nat.le_of_ble_eq_true rfl, Nat.le_of_ble_eq_true rfl⟩ dX12_dealt_7 (fun r5652 u5653 H locs hr5652 hP hD hS => ?_)
    obtain ⟨jr15654, ip15655, gtrc5656⟩ := u5653
    try dsimp only at hr5652
    have hP : va_P G.1 vwCl [(h0, .inr (12, [.ref nw, .ref nk, .int mhasKept, .ref nt, .int mtaped, .ref nr, .int mrowMany, .int mroundOf, .int mroundFrom, .int mouts, .ref nm, .int mfromHour, .int mtoHour, .ref ns, .int mfrom, .int mto, .int msort, .int misFault, .int mdeep, .int mcoded, .int mlines, .ref nl, .ref nc, .ref nF, .ref np, .ref ntr, .ref nb, .int mbestCost, .ref nso, .ref nsi, .ref nit, .ref nsh, .ref nsf, .ref nss, .ref nrc, .int (nI jr15654), .int 2, .int mnumber, .int mwhose, .int msize, .int ip15655])), (nrc, .inl (G.2.1, 30, .inl gtrc5656))] H := hP
    have hD : va_D A [(h0, .inr (12, [.ref nw, .ref nk, .int mhasKept, .ref nt, .int mtaped, .ref nr, .int mrowMany, .int mroundOf, .int mroundFrom, .int mouts, .ref nm, .int mfromHour, .int mtoHour, .ref ns, .int mfrom, .int mto, .int msort, .int misFault, .int mdeep, .int mcoded, .int mlines, .ref nl, .ref nc, .ref nF, .ref np, .ref ntr, .ref nb, .int mbestCost, .ref nso, .ref nsi, .ref nit, .ref nsh, .ref nsf, .ref nss, .ref nrc, .int (nI jr15654), .int 2, .int mnumber, .int mwhose, .int msize, .int ip15655])), (nrc, .inl (G.2.1, 30, .inl gtrc5656))] := hD
    obtain ⟨hr5652, w5657⟩ := hr5652
    exact RI (v := r5652) hC hP hD hS [0, 1] (jr15654, ip15655, gtrc5656) rfl rfl (by decide) (⟨trivial, by omega⟩) rfl dX12_dealt_10
  · refine iV (wr := []) hC hK hl hP hD hS hA (m_from30 l G h0 xx nw nk mhasKept nt mtaped nr mrowMany mroundOf mroundFrom mouts nm mfromHour mtoHour ns mfrom mto msort misFault mdeep mcoded mlines nl nc nF np ntr nb mbestCost nso nsi nit nsh nsf nss nrc jr 3 mnumber mwhose msize misParted fnrc (by omega) (by omega)) si_X12_357 [0, 1] [] rfl rfl (by decide) rfl (by decide) (by decide) rfl rfl rfl rfl rfl (Nat.le_of_ble_eq_true rfl) ⟨Nat.le_of_ble_eq_true rfl, Nat.le_of_ble_eq_true rfl⟩ ⟨Nat.le_of_ble_eq_true rfl, Nat.le_of_ble_eq_true rfl⟩ dX12_dealt_7 (fun r5658 u5659 H locs hr5658 hP hD hS => ?_)
    obtain ⟨jr15660, ip15661, gtrc5662⟩ := u5659
    try dsimp only at hr5658
    have hP : va_P G.1 vwCl [(h0, .inr (12, [.ref nw, .ref nk, .int mhasKept, .ref nt, .int mtaped, .ref nr, .int mrowMany, .int mroundOf, .int mroundFrom, .int mouts, .ref nm, .int mfromHour, .int mtoHour, .ref ns, .int mfrom, .int mto, .int msort, .int misFault, .int mdeep, .int mcoded, .int mlines, .ref nl, .ref nc, .ref nF, .ref np, .ref ntr, .ref nb, .int mbestCost, .ref nso, .ref nsi, .ref nit, .ref nsh, .ref nsf, .ref nss, .ref nrc, .int (nI jr15660), .int 3, .int mnumber, .int mwhose, .int msize, .int ip15661])), (nrc, .inl (G.2.1, 30, .inl gtrc5662))] H := hP
    have hD : va_D A [(h0, .inr (12, [.ref nw, .ref nk, .int mhasKept, .ref nt, .int mtaped, .ref nr, .int mrowMany, .int mroundOf, .int mroundFrom, .int mouts, .ref nm, .int mfromHour, .int mtoHour, .ref ns, .int mfrom, .int mto, .int msort, .int misFault, .int mdeep, .int mcoded, .int mlines, .ref nl, .ref nc, .ref nF, .ref np, .ref ntr, .ref nb, .int mbestCost, .ref nso, .ref nsi, .ref nit, .ref nsh, .ref nsf, .ref nss, .ref nrc, .int (nI jr15660), .int 3, .int mnumber, .int mwhose, .int msize, .int ip15661])), (nrc, .inl (G.2.1, 30, .inl gtrc5662))] := hD
    obtain ⟨hr5658, w5663⟩ := hr5658
    exact RI (v := r5658) hC hP hD hS [0, 1] (jr15660, ip15661, gtrc5662) rfl rfl (by decide) (⟨trivial, by omega⟩) rfl dX12_dealt_10
  · refine iV (wr := []) hC hK hl hP hD hS hA (m_from40 l G h0 xx nw nk mhasKept nt mtaped nr mrowMany mroundOf mroundFrom mouts nm mfromHour mtoHour ns mfrom mto msort misFault mdeep mcoded mlines nl nc nF np ntr nb mbestCost nso nsi nit nsh nsf nss nrc jr 4 mnumber mwhose msize misParted fnrc (by omega) (by omega)) si_X12_357 [0, 1] [] rfl rfl (by decide) rfl (by decide) (by decide) rfl rfl rfl rfl rfl (Nat.le_of_ble_eq_true rfl) ⟨Nat.le_of_ble_eq_true rfl, Nat.le_of_ble_eq_true rfl⟩ ⟨Nat.le_of_ble_eq_true rfl, Nat.le_of_ble_eq_true rfl⟩ dX12_dealt_7 (fun r5664 u5665 H locs hr5664 hP hD hS => ?_)
    obtain ⟨jr15666, ip15667, gtrc5668⟩ := u5665
    try dsimp only at hr5664
    have hP : va_P G.1 vwCl [(h0, .inr (12, [.ref nw, .ref nk, .int mhasKept, .ref nt, .int mtaped, .ref nr, .int mrowMany, .int mroundOf, .int mroundFrom, .int mouts, .ref nm, .int mfromHour, .int mtoHour, .ref ns, .int mfrom, .int mto, .int msort, .int misFault, .int mdeep, .int mcoded, .int mlines, .ref nl, .ref nc, .ref nF, .ref np, .ref ntr, .ref nb, .int mbestCost, .ref nso, .ref nsi, .ref nit, .ref nsh, .ref nsf, .ref nss, .ref nrc, .int (nI jr15666), .int 4, .int mnumber, .int mwhose, .int msize, .int ip15667])), (nrc, .inl (G.2.1, 30, .inl gtrc5668))] H := hP
    have hD : va_D A [(h0, .inr (12, [.ref nw, .ref nk, .int mhasKept, .ref nt, .int mtaped, .ref nr, .int mrowMany, .int mroundOf, .int mroundFrom, .int mouts, .ref nm, .int mfromHour, .int mtoHour, .ref ns, .int mfrom, .int mto, .int msort, .int misFault, .int mdeep, .int mcoded, .int mlines, .ref nl, .ref nc, .ref nF, .ref np, .ref ntr, .ref nb, .int mbestCost, .ref nso, .ref nsi, .ref nit, .ref nsh, .ref nsf, .ref nss, .ref nrc, .int (nI jr15666), .int 4, .int mnumber, .int mwhose, .int msize, .int ip15667])), (nrc, .inl (G.2.1, 30, .inl gtrc5668))] := hD
    obtain ⟨hr5664, w5669⟩ := hr5664
    exact RI (v := r5664) hC hP hD hS [0, 1] (jr15666, ip15667, gtrc5668) rfl rfl (by decide) (⟨trivial, by omega⟩) rfl dX12_dealt_10
  · refine iV (wr := []) hC hK hl hP hD hS hA (m_from50 l G h0 xx nw nk mhasKept nt mtaped nr mrowMany mroundOf mroundFrom mouts nm mfromHour mtoHour ns mfrom mto msort misFault mdeep mcoded mlines nl nc nF np ntr nb mbestCost nso nsi nit nsh nsf nss nrc jr 5 mnumber mwhose msize misParted fnrc (by omega) (by omega)) si_X12_357 [0, 1] [] rfl rfl (by decide) rfl (by decide) (by decide) rfl rfl rfl rfl rfl (Nat.le_of_ble_eq_true rfl) ⟨Nat.le_of_ble_eq_true rfl, Nat.le_of_ble_eq_true rfl⟩ ⟨Nat.le_of_ble_eq_true rfl, Nat.le_of_ble_eq_true rfl⟩ dX12_dealt_7 (fun r5670 u5671 H locs hr5670 hP hD hS => ?_)
    obtain ⟨jr15672, ip15673, gtrc5674⟩ := u5671
    try dsimp only at hr5670
    have hP : va_P G.1 vwCl [(h0, .inr (12, [.ref nw, .ref nk, .int mhasKept, .ref nt, .int mtaped, .ref nr, .int mrowMany, .int mroundOf, .int mroundFrom, .int mouts, .ref nm, .int mfromHour, .int mtoHour, .ref ns, .int mfrom, .int mto, .int msort, .int misFault, .int mdeep, .int mcoded, .int mlines, .ref nl, .ref nc, .ref nF, .ref np, .ref ntr, .ref nb, .int mbestCost, .ref nso, .ref nsi, .ref nit, .ref nsh, .ref nsf, .ref nss, .ref nrc, .int (nI jr15672), .int 5, .int mnumber, .int mwhose, .int msize, .int ip15673])), (nrc, .inl (G.2.1, 30, .inl gtrc5674))] H := hP
    have hD : va_D A [(h0, .inr (12, [.ref nw, .ref nk, .int mhasKept, .ref nt, .int mtaped, .ref nr, .int mrowMany, .int mroundOf, .int mroundFrom, .int mouts, .ref nm, .int mfromHour, .int mtoHour, .ref ns, .int mfrom, .int mto, .int msort, .int misFault, .int mdeep, .int mcoded, .int mlines, .ref nl, .ref nc, .ref nF, .ref np, .ref ntr, .ref nb, .int mbestCost, .ref nso, .ref nsi, .ref nit, .ref nsh, .ref nsf, .ref nss, .ref nrc, .int (nI jr15672), .int 5, .int mnumber, .int mwhose, .int msize, .int ip15673])), (nrc, .inl (G.2.1, 30, .inl gtrc5674))] := hD
    obtain ⟨hr5670, w5675⟩ := hr5670
    exact RI (v := r5670) hC hP hD hS [0, 1] (jr15672, ip15673, gtrc5674) rfl rfl (by decide) (⟨trivial, by omega⟩) rfl dX12_dealt_10
  · refine iV (wr := []) hC hK hl hP hD hS hA (m_from60 l G h0 xx nw nk mhasKept nt mtaped nr mrowMany mroundOf mroundFrom mouts nm mfromHour mtoHour ns mfrom mto msort misFault mdeep mcoded mlines nl nc nF np ntr nb mbestCost nso nsi nit nsh nsf nss nrc jr 6 mnumber mwhose msize misParted fnrc (by omega) (by omega)) si_X12_357 [0, 1] [] rfl rfl (by decide) rfl (by decide) (by decide) rfl rfl rfl rfl rfl (Nat.le_of_ble_eq_true rfl) ⟨Nat.le_of_ble_eq_true rfl, Nat.le_of_ble_eq_true rfl⟩ ⟨Nat.le_of_ble_eq_true rfl, Nat.le_of_ble_eq_true rfl⟩ dX12_dealt_7 (fun r5676 u5677 H locs hr5676 hP hD hS => ?_)
    obtain ⟨jr15678, ip15679, gtrc5680⟩ := u5677
    try dsimp only at hr5676
    have hP : va_P G.1 vwCl [(h0, .inr (12, [.ref nw, .ref nk, .int mhasKept, .ref nt, .int mtaped, .ref nr, .int mrowMany, .int mroundOf, .int mroundFrom, .int mouts, .ref nm, .int mfromHour, .int mtoHour, .ref ns, .int mfrom, .int mto, .int msort, .int misFault, .int mdeep, .int mcoded, .int mlines, .ref nl, .ref nc, .ref nF, .ref np, .ref ntr, .ref nb, .int mbestCost, .ref nso, .ref nsi, .ref nit, .ref nsh, .ref nsf, .ref nss, .ref nrc, .int (nI jr15678), .int 6, .int mnumber, .int mwhose, .int msize, .int ip15679])), (nrc, .inl (G.2.1, 30, .inl gtrc5680))] H := hP
    have hD : va_D A [(h0, .inr (12, [.ref nw, .ref nk, .int mhasKept, .ref nt, .int mtaped, .ref nr, .int mrowMany, .int mroundOf, .int mroundFrom, .int mouts, .ref nm, .int mfromHour, .int mtoHour, .ref ns, .int mfrom, .int mto, .int msort, .int misFault, .int mdeep, .int mcoded, .int mlines, .ref nl, .ref nc, .ref nF, .ref np, .ref ntr, .ref nb, .int mbestCost, .ref nso, .ref nsi, .ref nit, .ref nsh, .ref nsf, .ref nss, .ref nrc, .int (nI jr15678), .int 6, .int mnumber, .int mwhose, .int msize, .int ip15679])), (nrc, .inl (G.2.1, 30, .inl gtrc5680))] := hD
    obtain ⟨hr5676, w5681⟩ := hr5676
    exact RI (v := r5676) hC hP hD hS [0, 1] (jr15678, ip15679, gtrc5680) rfl rfl (by decide) (⟨trivial, by omega⟩) rfl dX12_dealt_10
set_option maxHeartbeats 4000000 in
set_option maxRecDepth 100000 in
theorem m_body01 (l : Launch) (G : GG) (h0 : Nat) (xx : Int32) (nw : Nat) (nk : Nat) (mhasKept : Int32) (nt : Nat) (mtaped : Int32) (nr : Nat) (mrowMany : Int32) (mroundOf : Int32) (mroundFrom : Int32) (mouts : Int32) (nm : Nat) (mfromHour : Int32) (mtoHour : Int32) (ns : Nat) (mfrom : Int32) (mto : Int32) (msort : Int32) (misFault : Int32) (mdeep : Int32) (mcoded : Int32) (mlines : Int32) (nl : Nat) (nc : Nat) (nF : Nat) (np : Nat) (ntr : Nat) (nb : Nat) (mbestCost : Int32) (nso : Nat) (nsi : Nat) (nit : Nat) (nsh : Nat) (nsf : Nat) (nss : Nat) (nrc : Nat) (jr : Nat) (jd : Nat) (mnumber : Int32) (mwhose : Int32) (msize : Int32) (misParted : Int32) (fnrc : Nat → Int32) (hjr : jr ≤ 30) (hjd : jd < 7) : MI l G yX12_body cX12_body 6 (some .int) 15 0 0 [.ref h0, .int 0, .int 1, .int xx] [(h0, .inr (12, [.ref nw, .ref nk, .int mhasKept, .ref nt, .int mtaped, .ref nr, .int mrowMany, .int mroundOf, .int mroundFrom, .int mouts, .ref nm, .int mfromHour, .int mtoHour, .ref ns, .int mfrom, .int mto, .int msort, .int misFault, .int mdeep, .int mcoded, .int mlines, .ref nl, .ref nc, .ref nF, .ref np, .ref ntr, .ref nb, .int mbestCost, .ref nso, .ref nsi, .ref nit, .ref nsh, .ref nsf, .ref nss, .ref nrc, .int (nI jr), .int (nI jd), .int mnumber, .int mwhose, .int msize, .int misParted])), (nrc, .inl (G.2.1, 30, .inl fnrc))] (fun (r : Int32) (u : Nat × Int32 × (Nat → Int32)) => (True) ∧ (u.1 ≤ 30)) (fun u : Nat × Int32 × (Nat → Int32) => [(h0, .inr (12, [.ref nw, .ref nk, .int mhasKept, .ref nt, .int mtaped, .ref nr, .int mrowMany, .int mroundOf, .int mroundFrom, .int mouts, .ref nm, .int mfromHour, .int mtoHour, .ref ns, .int mfrom, .int mto, .int msort, .int misFault, .int mdeep, .int mcoded, .int mlines, .ref nl, .ref nc, .ref nF, .ref np, .ref ntr, .ref nb, .int mbestCost, .ref nso, .ref nsi, .ref nit, .ref nsh, .ref nsf, .ref nss, .ref nrc, .int (nI u.1), .int (nI jd), .int mnumber, .int mwhose, .int msize, .int u.2.1])), (nrc, .inl (G.2.1, 30, .inl u.2.2))]) := by
  refine MI.start (by decide +kernel) (Nat.le_of_ble_eq_true rfl) ?_
  intro p e s m below meth c A ls hC hK hP hD hS hA hl
  have hl : lv_has ls 6 [(0, .ref h0), (1, .int 0), (2, .int 1), (3, .int xx)] := hl
  obtain ⟨hx, hb, hr, hml, hB, hown, hlocks, hnm⟩ := id hC
  refine lv_iconst (v := 4) hx hb dX12_body_0 (by decide) ?_
  refine lv_iload_n hx hb dX12_body_1 rfl (lv_at hl 1 rfl) ?_
  refine lv_imul hx hb dX12_body_2 ?_
  refine eqi (x1 := 0) (by decide) ?_
  refine lv_iload_n hx hb dX12_body_3 rfl (lv_at hl 2 rfl) ?_
  refine lv_iadd hx hb dX12_body_4 ?_
  refine eqi (x1 := 1) (by decide) ?_
  refine lv_tableIn (tgt := 125) hx hb dX12_body_5 (by decide) (by decide) rfl (by decide) ?_
  refine lv_aload_n hx hb dX12_body_125 rfl (lv_at hl 0 rfl) ?_
  refine lv_bipush (v := 11) hx hb dX12_body_126 (by decide) ?_
  refine vV (wr := []) hC hK hl hP hD hS hA (m_began l G h0 11 nw nk mhasKept nt mtaped nr mrowMany mroundOf mroundFrom mouts nm mfromHour mtoHour ns mfrom mto msort misFault mdeep mcoded mlines nl nc nF np ntr nb mbestCost nso nsi nit nsh nsf nss nrc jr (nI jd) mnumber mwhose msize misParted fnrc (by omega)) si_X12_366 [0, 1] [] rfl rfl (by decide) rfl (by decide) (by decide) rfl rfl rfl rfl rfl (Nat.le_of_ble_eq_true rfl) ⟨Nat.le_of_ble_eq_true rfl, Nat.le_of_ble_eq_true rfl⟩ ⟨Nat.le_of_ble_eq_true rfl, Nat.le_of_ble_eq_true rfl⟩ dX12_body_128 (fun u5683 H locs hr5682 hP hD hS => ?_)
  obtain ⟨jr15684, gtrc5685⟩ := u5683
  try dsimp only at hr5682
  have hP : va_P G.1 vwCl [(h0, .inr (12, [.ref nw, .ref nk, .int mhasKept, .ref nt, .int mtaped, .ref nr, .int mrowMany, .int mroundOf, .int mroundFrom, .int mouts, .ref nm, .int mfromHour, .int mtoHour, .ref ns, .int mfrom, .int mto, .int msort, .int misFault, .int mdeep, .int mcoded, .int mlines, .ref nl, .ref nc, .ref nF, .ref np, .ref ntr, .ref nb, .int mbestCost, .ref nso, .ref nsi, .ref nit, .ref nsh, .ref nsf, .ref nss, .ref nrc, .int (nI jr15684), .int (nI jd), .int mnumber, .int mwhose, .int msize, .int misParted])), (nrc, .inl (G.2.1, 30, .inl gtrc5685))] H := hP
  have hD : va_D A [(h0, .inr (12, [.ref nw, .ref nk, .int mhasKept, .ref nt, .int mtaped, .ref nr, .int mrowMany, .int mroundOf, .int mroundFrom, .int mouts, .ref nm, .int mfromHour, .int mtoHour, .ref ns, .int mfrom, .int mto, .int msort, .int misFault, .int mdeep, .int mcoded, .int mlines, .ref nl, .ref nc, .ref nF, .ref np, .ref ntr, .ref nb, .int mbestCost, .ref nso, .ref nsi, .ref nit, .ref nsh, .ref nsf, .ref nss, .ref nrc, .int (nI jr15684), .int (nI jd), .int mnumber, .int mwhose, .int msize, .int misParted])), (nrc, .inl (G.2.1, 30, .inl gtrc5685))] := hD
  have w5686 := hr5682
  refine lv_aload_n hx hb dX12_body_131 rfl (lv_at hl 0 rfl) ?_
  refine lv_iconst (v := 0) hx hb dX12_body_132 (by decide) ?_
  refine lv_iload_n hx hb dX12_body_133 rfl (lv_at hl 3 rfl) ?_
  refine iV (wr := []) hC hK hl hP hD hS hA (m_dealt0 l G h0 xx nw nk mhasKept nt mtaped nr mrowMany mroundOf mroundFrom mouts nm mfromHour mtoHour ns mfrom mto msort misFault mdeep mcoded mlines nl nc nF np ntr nb mbestCost nso nsi nit nsh nsf nss nrc jr15684 jd mnumber mwhose msize misParted gtrc5685 (by omega) (by omega)) si_X12_372 [0, 1] [] rfl rfl (by decide) rfl (by decide) (by decide) rfl rfl rfl rfl rfl (Nat.le_of_ble_eq_true rfl) ⟨Nat.le_of_ble_eq_true rfl, Nat.le_of_ble_eq_true rfl⟩ ⟨Nat.le_of_ble_eq_true rfl, Nat.le_of_ble_eq_true rfl⟩ dX12_body_134 (fun r5687 u5688 H locs hr5687 hP hD hS => ?_)
  obtain ⟨jr15689, ip15690, gtrc5691⟩ := u5688
  try dsimp only at hr5687
  have hP : va_P G.1 vwCl [(h0, .inr (12, [.ref nw, .ref nk, .int mhasKept, .ref nt, .int mtaped, .ref nr, .int mrowMany, .int mroundOf, .int mroundFrom, .int mouts, .ref nm, .int mfromHour, .int mtoHour, .ref ns, .int mfrom, .int mto, .int msort, .int misFault, .int mdeep, .int mcoded, .int mlines, .ref nl, .ref nc, .ref nF, .ref np, .ref ntr, .ref nb, .int mbestCost, .ref nso, .ref nsi, .ref nit, .ref nsh, .ref nsf, .ref nss, .ref nrc, .int (nI jr15689), .int (nI jd), .int mnumber, .int mwhose, .int msize, .int ip15690])), (nrc, .inl (G.2.1, 30, .inl gtrc5691))] H := hP
  have hD : va_D A [(h0, .inr (12, [.ref nw, .ref nk, .int mhasKept, .ref nt, .int mtaped, .ref nr, .int mrowMany, .int mroundOf, .int mroundFrom, .int mouts, .ref nm, .int mfromHour, .int mtoHour, .ref ns, .int mfrom, .int mto, .int msort, .int misFault, .int mdeep, .int mcoded, .int mlines, .ref nl, .ref nc, .ref nF, .ref np, .ref ntr, .ref nb, .int mbestCost, .ref nso, .ref nsi, .ref nit, .ref nsh, .ref nsf, .ref nss, .ref nrc, .int (nI jr15689), .int (nI jd), .int mnumber, .int mwhose, .int msize, .int ip15690])), (nrc, .inl (G.2.1, 30, .inl gtrc5691))] := hD
  obtain ⟨hr5687, w5692⟩ := hr5687
  refine lv_iconst (v := 2) hx hb dX12_body_137 (by decide) ?_
  refine lv_imul hx hb dX12_body_138 ?_
  exact RI (v := r5687 * 2) hC hP hD hS [0, 1] (jr15689, ip15690, gtrc5691) rfl rfl (by decide) (⟨trivial, by omega⟩) rfl dX12_body_139
set_option maxHeartbeats 4000000 in
set_option maxRecDepth 100000 in
theorem m_from01 (l : Launch) (G : GG) (h0 : Nat) (xx : Int32) (nw : Nat) (nk : Nat) (mhasKept : Int32) (nt : Nat) (mtaped : Int32) (nr : Nat) (mrowMany : Int32) (mroundOf : Int32) (mroundFrom : Int32) (mouts : Int32) (nm : Nat) (mfromHour : Int32) (mtoHour : Int32) (ns : Nat) (mfrom : Int32) (mto : Int32) (msort : Int32) (misFault : Int32) (mdeep : Int32) (mcoded : Int32) (mlines : Int32) (nl : Nat) (nc : Nat) (nF : Nat) (np : Nat) (ntr : Nat) (nb : Nat) (mbestCost : Int32) (nso : Nat) (nsi : Nat) (nit : Nat) (nsh : Nat) (nsf : Nat) (nss : Nat) (nrc : Nat) (jr : Nat) (jd : Nat) (mnumber : Int32) (mwhose : Int32) (msize : Int32) (misParted : Int32) (fnrc : Nat → Int32) (hjr : jr ≤ 30) (hjd : jd < 7) : MI l G yX12_bodyFrom cX12_bodyFrom 5 (some .int) 16 0 0 [.ref h0, .int 0, .int 1, .int xx] [(h0, .inr (12, [.ref nw, .ref nk, .int mhasKept, .ref nt, .int mtaped, .ref nr, .int mrowMany, .int mroundOf, .int mroundFrom, .int mouts, .ref nm, .int mfromHour, .int mtoHour, .ref ns, .int mfrom, .int mto, .int msort, .int misFault, .int mdeep, .int mcoded, .int mlines, .ref nl, .ref nc, .ref nF, .ref np, .ref ntr, .ref nb, .int mbestCost, .ref nso, .ref nsi, .ref nit, .ref nsh, .ref nsf, .ref nss, .ref nrc, .int (nI jr), .int (nI jd), .int mnumber, .int mwhose, .int msize, .int misParted])), (nrc, .inl (G.2.1, 30, .inl fnrc))] (fun (r : Int32) (u : Nat × Int32 × (Nat → Int32)) => (True) ∧ (u.1 ≤ 30)) (fun u : Nat × Int32 × (Nat → Int32) => [(h0, .inr (12, [.ref nw, .ref nk, .int mhasKept, .ref nt, .int mtaped, .ref nr, .int mrowMany, .int mroundOf, .int mroundFrom, .int mouts, .ref nm, .int mfromHour, .int mtoHour, .ref ns, .int mfrom, .int mto, .int msort, .int misFault, .int mdeep, .int mcoded, .int mlines, .ref nl, .ref nc, .ref nF, .ref np, .ref ntr, .ref nb, .int mbestCost, .ref nso, .ref nsi, .ref nit, .ref nsh, .ref nsf, .ref nss, .ref nrc, .int (nI u.1), .int (nI jd), .int mnumber, .int mwhose, .int msize, .int u.2.1])), (nrc, .inl (G.2.1, 30, .inl u.2.2))]) := by
  refine MI.start (by decide +kernel) (Nat.le_of_ble_eq_true rfl) ?_
  intro p e s m below meth c A ls hC hK hP hD hS hA hl
  have hl : lv_has ls 5 [(0, .ref h0), (1, .int 0), (2, .int 1), (3, .int xx)] := hl
  obtain ⟨hx, hb, hr, hml, hB, hown, hlocks, hnm⟩ := id hC
  refine lv_iload_n hx hb dX12_bodyFrom_0 rfl (lv_at hl 1 rfl) ?_
  refine lv_istore (lv' := [(4, .int 0), (0, .ref h0), (1, .int 0), (2, .int 1), (3, .int xx)]) hx hb dX12_bodyFrom_1 hl (by decide) rfl (fun ls hl => ?_)
  refine lv_iload hx hb dX12_bodyFrom_3 (lv_at hl 0 rfl) ?_
  refine lv_iload_n hx hb dX12_bodyFrom_5 rfl (lv_at hl 3 rfl) ?_
  refine pS hC hK hl (m_hasOwn01 l G) si_X12_360 rfl rfl (Nat.le_of_ble_eq_true rfl) ⟨Nat.le_of_ble_eq_true rfl, Nat.le_of_ble_eq_true rfl⟩ ⟨by first | exact Nat.le_of_ble_eq_true rfl | exact Nat.zero_le _, by first | exact Nat.le_of_ble_eq_true rfl | exact Nat.zero_le _⟩ dX12_bodyFrom_6 (fun r5693 hr5693 => ?_)
  obtain rfl := hr5693
  refine lv_if_ne (tgt := 22) hx hb dX12_bodyFrom_9 (by decide) (fun _ => ?_) (fun c9 => absurd c9 (by decide))
  refine lv_aload_n hx hb dX12_bodyFrom_22 rfl (lv_at hl 1 rfl) ?_
  refine lv_iload hx hb dX12_bodyFrom_23 (lv_at hl 0 rfl) ?_
  refine lv_iload_n hx hb dX12_bodyFrom_25 rfl (lv_at hl 3 rfl) ?_
  refine lv_iload_n hx hb dX12_bodyFrom_26 rfl (lv_at hl 4 rfl) ?_
  refine iV (wr := []) hC hK hl hP hD hS hA (m_body01 l G h0 xx nw nk mhasKept nt mtaped nr mrowMany mroundOf mroundFrom mouts nm mfromHour mtoHour ns mfrom mto msort misFault mdeep mcoded mlines nl nc nF np ntr nb mbestCost nso nsi nit nsh nsf nss nrc jr jd mnumber mwhose msize misParted fnrc (by omega) (by omega)) si_X12_363 [0, 1] [] rfl rfl (by decide) rfl (by decide) (by decide) rfl rfl rfl rfl rfl (Nat.le_of_ble_eq_true rfl) ⟨Nat.le_of_ble_eq_true rfl, Nat.le_of_ble_eq_true rfl⟩ ⟨Nat.le_of_ble_eq_true rfl, Nat.le_of_ble_eq_true rfl⟩ dX12_bodyFrom_27 (fun r5695 u5696 H locs hr5695 hP hD hS => ?_)
  obtain ⟨jr15697, ip15698, gtrc5699⟩ := u5696
  try dsimp only at hr5695
  have hP : va_P G.1 vwCl [(h0, .inr (12, [.ref nw, .ref nk, .int mhasKept, .ref nt, .int mtaped, .ref nr, .int mrowMany, .int mroundOf, .int mroundFrom, .int mouts, .ref nm, .int mfromHour, .int mtoHour, .ref ns, .int mfrom, .int mto, .int msort, .int misFault, .int mdeep, .int mcoded, .int mlines, .ref nl, .ref nc, .ref nF, .ref np, .ref ntr, .ref nb, .int mbestCost, .ref nso, .ref nsi, .ref nit, .ref nsh, .ref nsf, .ref nss, .ref nrc, .int (nI jr15697), .int (nI jd), .int mnumber, .int mwhose, .int msize, .int ip15698])), (nrc, .inl (G.2.1, 30, .inl gtrc5699))] H := hP
  have hD : va_D A [(h0, .inr (12, [.ref nw, .ref nk, .int mhasKept, .ref nt, .int mtaped, .ref nr, .int mrowMany, .int mroundOf, .int mroundFrom, .int mouts, .ref nm, .int mfromHour, .int mtoHour, .ref ns, .int mfrom, .int mto, .int msort, .int misFault, .int mdeep, .int mcoded, .int mlines, .ref nl, .ref nc, .ref nF, .ref np, .ref ntr, .ref nb, .int mbestCost, .ref nso, .ref nsi, .ref nit, .ref nsh, .ref nsf, .ref nss, .ref nrc, .int (nI jr15697), .int (nI jd), .int mnumber, .int mwhose, .int msize, .int ip15698])), (nrc, .inl (G.2.1, 30, .inl gtrc5699))] := hD
  obtain ⟨hr5695, w5700⟩ := hr5695
  exact RI (v := r5695) hC hP hD hS [0, 1] (jr15697, ip15698, gtrc5699) rfl rfl (by decide) (⟨trivial, by omega⟩) rfl dX12_bodyFrom_30
set_option maxHeartbeats 4000000 in
set_option maxRecDepth 100000 in
theorem m_body11 (l : Launch) (G : GG) (h0 : Nat) (xx : Int32) (nw : Nat) (nk : Nat) (mhasKept : Int32) (nt : Nat) (mtaped : Int32) (nr : Nat) (mrowMany : Int32) (mroundOf : Int32) (mroundFrom : Int32) (mouts : Int32) (nm : Nat) (mfromHour : Int32) (mtoHour : Int32) (ns : Nat) (mfrom : Int32) (mto : Int32) (msort : Int32) (misFault : Int32) (mdeep : Int32) (mcoded : Int32) (mlines : Int32) (nl : Nat) (nc : Nat) (nF : Nat) (np : Nat) (ntr : Nat) (nb : Nat) (mbestCost : Int32) (nso : Nat) (nsi : Nat) (nit : Nat) (nsh : Nat) (nsf : Nat) (nss : Nat) (nrc : Nat) (jr : Nat) (jd : Nat) (mnumber : Int32) (mwhose : Int32) (msize : Int32) (misParted : Int32) (fnrc : Nat → Int32) (hjr : jr ≤ 30) (hjd : jd < 7) : MI l G yX12_body cX12_body 6 (some .int) 17 0 0 [.ref h0, .int 1, .int 1, .int xx] [(h0, .inr (12, [.ref nw, .ref nk, .int mhasKept, .ref nt, .int mtaped, .ref nr, .int mrowMany, .int mroundOf, .int mroundFrom, .int mouts, .ref nm, .int mfromHour, .int mtoHour, .ref ns, .int mfrom, .int mto, .int msort, .int misFault, .int mdeep, .int mcoded, .int mlines, .ref nl, .ref nc, .ref nF, .ref np, .ref ntr, .ref nb, .int mbestCost, .ref nso, .ref nsi, .ref nit, .ref nsh, .ref nsf, .ref nss, .ref nrc, .int (nI jr), .int (nI jd), .int mnumber, .int mwhose, .int msize, .int misParted])), (nrc, .inl (G.2.1, 30, .inl fnrc))] (fun (r : Int32) (u : Nat × Int32 × (Nat → Int32)) => (True) ∧ (u.1 ≤ 30)) (fun u : Nat × Int32 × (Nat → Int32) => [(h0, .inr (12, [.ref nw, .ref nk, .int mhasKept, .ref nt, .int mtaped, .ref nr, .int mrowMany, .int mroundOf, .int mroundFrom, .int mouts, .ref nm, .int mfromHour, .int mtoHour, .ref ns, .int mfrom, .int mto, .int msort, .int misFault, .int mdeep, .int mcoded, .int mlines, .ref nl, .ref nc, .ref nF, .ref np, .ref ntr, .ref nb, .int mbestCost, .ref nso, .ref nsi, .ref nit, .ref nsh, .ref nsf, .ref nss, .ref nrc, .int (nI u.1), .int (nI jd), .int mnumber, .int mwhose, .int msize, .int u.2.1])), (nrc, .inl (G.2.1, 30, .inl u.2.2))]) := by
  refine MI.start (by decide +kernel) (Nat.le_of_ble_eq_true rfl) ?_
  intro p e s m below meth c A ls hC hK hP hD hS hA hl
  have hl : lv_has ls 6 [(0, .ref h0), (1, .int 1), (2, .int 1), (3, .int xx)] := hl
  obtain ⟨hx, hb, hr, hml, hB, hown, hlocks, hnm⟩ := id hC
  refine lv_iconst (v := 4) hx hb dX12_body_0 (by decide) ?_
  refine lv_iload_n hx hb dX12_body_1 rfl (lv_at hl 1 rfl) ?_
  refine lv_imul hx hb dX12_body_2 ?_
  refine eqi (x1 := 4) (by decide) ?_
  refine lv_iload_n hx hb dX12_body_3 rfl (lv_at hl 2 rfl) ?_
  refine lv_iadd hx hb dX12_body_4 ?_
  refine eqi (x1 := 5) (by decide) ?_
  refine lv_tableIn (tgt := 207) hx hb dX12_body_5 (by decide) (by decide) rfl (by decide) ?_
  refine lv_aload_n hx hb dX12_body_207 rfl (lv_at hl 0 rfl) ?_
  refine lv_bipush (v := 20) hx hb dX12_body_208 (by decide) ?_
  refine vV (wr := []) hC hK hl hP hD hS hA (m_began l G h0 20 nw nk mhasKept nt mtaped nr mrowMany mroundOf mroundFrom mouts nm mfromHour mtoHour ns mfrom mto msort misFault mdeep mcoded mlines nl nc nF np ntr nb mbestCost nso nsi nit nsh nsf nss nrc jr (nI jd) mnumber mwhose msize misParted fnrc (by omega)) si_X12_366 [0, 1] [] rfl rfl (by decide) rfl (by decide) (by decide) rfl rfl rfl rfl rfl (Nat.le_of_ble_eq_true rfl) ⟨Nat.le_of_ble_eq_true rfl, Nat.le_of_ble_eq_true rfl⟩ ⟨Nat.le_of_ble_eq_true rfl, Nat.le_of_ble_eq_true rfl⟩ dX12_body_210 (fun u5702 H locs hr5701 hP hD hS => ?_)
  obtain ⟨jr15703, gtrc5704⟩ := u5702
  try dsimp only at hr5701
  have hP : va_P G.1 vwCl [(h0, .inr (12, [.ref nw, .ref nk, .int mhasKept, .ref nt, .int mtaped, .ref nr, .int mrowMany, .int mroundOf, .int mroundFrom, .int mouts, .ref nm, .int mfromHour, .int mtoHour, .ref ns, .int mfrom, .int mto, .int msort, .int misFault, .int mdeep, .int mcoded, .int mlines, .ref nl, .ref nc, .ref nF, .ref np, .ref ntr, .ref nb, .int mbestCost, .ref nso, .ref nsi, .ref nit, .ref nsh, .ref nsf, .ref nss, .ref nrc, .int (nI jr15703), .int (nI jd), .int mnumber, .int mwhose, .int msize, .int misParted])), (nrc, .inl (G.2.1, 30, .inl gtrc5704))] H := hP
  have hD : va_D A [(h0, .inr (12, [.ref nw, .ref nk, .int mhasKept, .ref nt, .int mtaped, .ref nr, .int mrowMany, .int mroundOf, .int mroundFrom, .int mouts, .ref nm, .int mfromHour, .int mtoHour, .ref ns, .int mfrom, .int mto, .int msort, .int misFault, .int mdeep, .int mcoded, .int mlines, .ref nl, .ref nc, .ref nF, .ref np, .ref ntr, .ref nb, .int mbestCost, .ref nso, .ref nsi, .ref nit, .ref nsh, .ref nsf, .ref nss, .ref nrc, .int (nI jr15703), .int (nI jd), .int mnumber, .int mwhose, .int msize, .int misParted])), (nrc, .inl (G.2.1, 30, .inl gtrc5704))] := hD
  have w5705 := hr5701
  refine lv_aload_n hx hb dX12_body_213 rfl (lv_at hl 0 rfl) ?_
  refine lv_iconst (v := 0) hx hb dX12_body_214 (by decide) ?_
  refine lv_iconst (v := 1) hx hb dX12_body_215 (by decide) ?_
  refine lv_iload_n hx hb dX12_body_216 rfl (lv_at hl 3 rfl) ?_
  refine iV (wr := []) hC hK hl hP hD hS hA (m_from01 l G h0 xx nw nk mhasKept nt mtaped nr mrowMany mroundOf mroundFrom mouts nm mfromHour mtoHour ns mfrom mto msort misFault mdeep mcoded mlines nl nc nF np ntr nb mbestCost nso nsi nit nsh nsf nss nrc jr15703 jd mnumber mwhose msize misParted gtrc5704 (by omega) (by omega)) si_X12_357 [0, 1] [] rfl rfl (by decide) rfl (by decide) (by decide) rfl rfl rfl rfl rfl (Nat.le_of_ble_eq_true rfl) ⟨Nat.le_of_ble_eq_true rfl, Nat.le_of_ble_eq_true rfl⟩ ⟨Nat.le_of_ble_eq_true rfl, Nat.le_of_ble_eq_true rfl⟩ dX12_body_217 (fun r5706 u5707 H locs hr5706 hP hD hS => ?_)
  obtain ⟨jr15708, ip15709, gtrc5710⟩ := u5707
  try dsimp only at hr5706
  have hP : va_P G.1 vwCl [(h0, .inr (12, [.ref nw, .ref nk, .int mhasKept, .ref nt, .int mtaped, .ref nr, .int mrowMany, .int mroundOf, .int mroundFrom, .int mouts, .ref nm, .int mfromHour, .int mtoHour, .ref ns, .int mfrom, .int mto, .int msort, .int misFault, .int mdeep, .int mcoded, .int mlines, .ref nl, .ref nc, .ref nF, .ref np, .ref ntr, .ref nb, .int mbestCost, .ref nso, .ref nsi, .ref nit, .ref nsh, .ref nsf, .ref nss, .ref nrc, .int (nI jr15708), .int (nI jd), .int mnumber, .int mwhose, .int msize, .int ip15709])), (nrc, .inl (G.2.1, 30, .inl gtrc5710))] H := hP
  have hD : va_D A [(h0, .inr (12, [.ref nw, .ref nk, .int mhasKept, .ref nt, .int mtaped, .ref nr, .int mrowMany, .int mroundOf, .int mroundFrom, .int mouts, .ref nm, .int mfromHour, .int mtoHour, .ref ns, .int mfrom, .int mto, .int msort, .int misFault, .int mdeep, .int mcoded, .int mlines, .ref nl, .ref nc, .ref nF, .ref np, .ref ntr, .ref nb, .int mbestCost, .ref nso, .ref nsi, .ref nit, .ref nsh, .ref nsf, .ref nss, .ref nrc, .int (nI jr15708), .int (nI jd), .int mnumber, .int mwhose, .int msize, .int ip15709])), (nrc, .inl (G.2.1, 30, .inl gtrc5710))] := hD
  obtain ⟨hr5706, w5711⟩ := hr5706
  refine lv_aload_n hx hb dX12_body_220 rfl (lv_at hl 0 rfl) ?_
  refine gf_X12_378 hC rfl hK hP 0 rfl rfl dX12_body_221 ?_
  refine lv_ixor hx hb dX12_body_224 ?_
  exact RI (v := r5706 ^^^ mnumber) hC hP hD hS [0, 1] (jr15708, ip15709, gtrc5710) rfl rfl (by decide) (⟨trivial, by omega⟩) rfl dX12_body_225
set_option maxHeartbeats 4000000 in
set_option maxRecDepth 100000 in
theorem m_from11 (l : Launch) (G : GG) (h0 : Nat) (xx : Int32) (nw : Nat) (nk : Nat) (mhasKept : Int32) (nt : Nat) (mtaped : Int32) (nr : Nat) (mrowMany : Int32) (mroundOf : Int32) (mroundFrom : Int32) (mouts : Int32) (nm : Nat) (mfromHour : Int32) (mtoHour : Int32) (ns : Nat) (mfrom : Int32) (mto : Int32) (msort : Int32) (misFault : Int32) (mdeep : Int32) (mcoded : Int32) (mlines : Int32) (nl : Nat) (nc : Nat) (nF : Nat) (np : Nat) (ntr : Nat) (nb : Nat) (mbestCost : Int32) (nso : Nat) (nsi : Nat) (nit : Nat) (nsh : Nat) (nsf : Nat) (nss : Nat) (nrc : Nat) (jr : Nat) (jd : Nat) (mnumber : Int32) (mwhose : Int32) (msize : Int32) (misParted : Int32) (fnrc : Nat → Int32) (hjr : jr ≤ 30) (hjd : jd < 7) : MI l G yX12_bodyFrom cX12_bodyFrom 5 (some .int) 18 0 0 [.ref h0, .int 1, .int 1, .int xx] [(h0, .inr (12, [.ref nw, .ref nk, .int mhasKept, .ref nt, .int mtaped, .ref nr, .int mrowMany, .int mroundOf, .int mroundFrom, .int mouts, .ref nm, .int mfromHour, .int mtoHour, .ref ns, .int mfrom, .int mto, .int msort, .int misFault, .int mdeep, .int mcoded, .int mlines, .ref nl, .ref nc, .ref nF, .ref np, .ref ntr, .ref nb, .int mbestCost, .ref nso, .ref nsi, .ref nit, .ref nsh, .ref nsf, .ref nss, .ref nrc, .int (nI jr), .int (nI jd), .int mnumber, .int mwhose, .int msize, .int misParted])), (nrc, .inl (G.2.1, 30, .inl fnrc))] (fun (r : Int32) (u : Nat × Int32 × (Nat → Int32)) => (True) ∧ (u.1 ≤ 30)) (fun u : Nat × Int32 × (Nat → Int32) => [(h0, .inr (12, [.ref nw, .ref nk, .int mhasKept, .ref nt, .int mtaped, .ref nr, .int mrowMany, .int mroundOf, .int mroundFrom, .int mouts, .ref nm, .int mfromHour, .int mtoHour, .ref ns, .int mfrom, .int mto, .int msort, .int misFault, .int mdeep, .int mcoded, .int mlines, .ref nl, .ref nc, .ref nF, .ref np, .ref ntr, .ref nb, .int mbestCost, .ref nso, .ref nsi, .ref nit, .ref nsh, .ref nsf, .ref nss, .ref nrc, .int (nI u.1), .int (nI jd), .int mnumber, .int mwhose, .int msize, .int u.2.1])), (nrc, .inl (G.2.1, 30, .inl u.2.2))]) := by
  refine MI.start (by decide +kernel) (Nat.le_of_ble_eq_true rfl) ?_
  intro p e s m below meth c A ls hC hK hP hD hS hA hl
  have hl : lv_has ls 5 [(0, .ref h0), (1, .int 1), (2, .int 1), (3, .int xx)] := hl
  obtain ⟨hx, hb, hr, hml, hB, hown, hlocks, hnm⟩ := id hC
  refine lv_iload_n hx hb dX12_bodyFrom_0 rfl (lv_at hl 1 rfl) ?_
  refine lv_istore (lv' := [(4, .int 1), (0, .ref h0), (1, .int 1), (2, .int 1), (3, .int xx)]) hx hb dX12_bodyFrom_1 hl (by decide) rfl (fun ls hl => ?_)
  refine lv_iload hx hb dX12_bodyFrom_3 (lv_at hl 0 rfl) ?_
  refine lv_iload_n hx hb dX12_bodyFrom_5 rfl (lv_at hl 3 rfl) ?_
  refine pS hC hK hl (m_hasOwn11 l G) si_X12_360 rfl rfl (Nat.le_of_ble_eq_true rfl) ⟨Nat.le_of_ble_eq_true rfl, Nat.le_of_ble_eq_true rfl⟩ ⟨by first | exact Nat.le_of_ble_eq_true rfl | exact Nat.zero_le _, by first | exact Nat.le_of_ble_eq_true rfl | exact Nat.zero_le _⟩ dX12_bodyFrom_6 (fun r5712 hr5712 => ?_)
  obtain rfl := hr5712
  refine lv_if_ne (tgt := 22) hx hb dX12_bodyFrom_9 (by decide) (fun _ => ?_) (fun c9 => absurd c9 (by decide))
  refine lv_aload_n hx hb dX12_bodyFrom_22 rfl (lv_at hl 1 rfl) ?_
  refine lv_iload hx hb dX12_bodyFrom_23 (lv_at hl 0 rfl) ?_
  refine lv_iload_n hx hb dX12_bodyFrom_25 rfl (lv_at hl 3 rfl) ?_
  refine lv_iload_n hx hb dX12_bodyFrom_26 rfl (lv_at hl 4 rfl) ?_
  refine iV (wr := []) hC hK hl hP hD hS hA (m_body11 l G h0 xx nw nk mhasKept nt mtaped nr mrowMany mroundOf mroundFrom mouts nm mfromHour mtoHour ns mfrom mto msort misFault mdeep mcoded mlines nl nc nF np ntr nb mbestCost nso nsi nit nsh nsf nss nrc jr jd mnumber mwhose msize misParted fnrc (by omega) (by omega)) si_X12_363 [0, 1] [] rfl rfl (by decide) rfl (by decide) (by decide) rfl rfl rfl rfl rfl (Nat.le_of_ble_eq_true rfl) ⟨Nat.le_of_ble_eq_true rfl, Nat.le_of_ble_eq_true rfl⟩ ⟨Nat.le_of_ble_eq_true rfl, Nat.le_of_ble_eq_true rfl⟩ dX12_bodyFrom_27 (fun r5714 u5715 H locs hr5714 hP hD hS => ?_)
  obtain ⟨jr15716, ip15717, gtrc5718⟩ := u5715
  try dsimp only at hr5714
  have hP : va_P G.1 vwCl [(h0, .inr (12, [.ref nw, .ref nk, .int mhasKept, .ref nt, .int mtaped, .ref nr, .int mrowMany, .int mroundOf, .int mroundFrom, .int mouts, .ref nm, .int mfromHour, .int mtoHour, .ref ns, .int mfrom, .int mto, .int msort, .int misFault, .int mdeep, .int mcoded, .int mlines, .ref nl, .ref nc, .ref nF, .ref np, .ref ntr, .ref nb, .int mbestCost, .ref nso, .ref nsi, .ref nit, .ref nsh, .ref nsf, .ref nss, .ref nrc, .int (nI jr15716), .int (nI jd), .int mnumber, .int mwhose, .int msize, .int ip15717])), (nrc, .inl (G.2.1, 30, .inl gtrc5718))] H := hP
  have hD : va_D A [(h0, .inr (12, [.ref nw, .ref nk, .int mhasKept, .ref nt, .int mtaped, .ref nr, .int mrowMany, .int mroundOf, .int mroundFrom, .int mouts, .ref nm, .int mfromHour, .int mtoHour, .ref ns, .int mfrom, .int mto, .int msort, .int misFault, .int mdeep, .int mcoded, .int mlines, .ref nl, .ref nc, .ref nF, .ref np, .ref ntr, .ref nb, .int mbestCost, .ref nso, .ref nsi, .ref nit, .ref nsh, .ref nsf, .ref nss, .ref nrc, .int (nI jr15716), .int (nI jd), .int mnumber, .int mwhose, .int msize, .int ip15717])), (nrc, .inl (G.2.1, 30, .inl gtrc5718))] := hD
  obtain ⟨hr5714, w5719⟩ := hr5714
  exact RI (v := r5714) hC hP hD hS [0, 1] (jr15716, ip15717, gtrc5718) rfl rfl (by decide) (⟨trivial, by omega⟩) rfl dX12_bodyFrom_30
set_option maxHeartbeats 4000000 in
set_option maxRecDepth 100000 in
theorem m_body31 (l : Launch) (G : GG) (h0 : Nat) (xx : Int32) (nw : Nat) (nk : Nat) (mhasKept : Int32) (nt : Nat) (mtaped : Int32) (nr : Nat) (mrowMany : Int32) (mroundOf : Int32) (mroundFrom : Int32) (mouts : Int32) (nm : Nat) (mfromHour : Int32) (mtoHour : Int32) (ns : Nat) (mfrom : Int32) (mto : Int32) (msort : Int32) (misFault : Int32) (mdeep : Int32) (mcoded : Int32) (mlines : Int32) (nl : Nat) (nc : Nat) (nF : Nat) (np : Nat) (ntr : Nat) (nb : Nat) (mbestCost : Int32) (nso : Nat) (nsi : Nat) (nit : Nat) (nsh : Nat) (nsf : Nat) (nss : Nat) (nrc : Nat) (jr : Nat) (jd : Nat) (mnumber : Int32) (mwhose : Int32) (msize : Int32) (misParted : Int32) (fnrc : Nat → Int32) (hjr : jr ≤ 30) (hjd : jd < 7) : MI l G yX12_body cX12_body 6 (some .int) 19 0 0 [.ref h0, .int 3, .int 1, .int xx] [(h0, .inr (12, [.ref nw, .ref nk, .int mhasKept, .ref nt, .int mtaped, .ref nr, .int mrowMany, .int mroundOf, .int mroundFrom, .int mouts, .ref nm, .int mfromHour, .int mtoHour, .ref ns, .int mfrom, .int mto, .int msort, .int misFault, .int mdeep, .int mcoded, .int mlines, .ref nl, .ref nc, .ref nF, .ref np, .ref ntr, .ref nb, .int mbestCost, .ref nso, .ref nsi, .ref nit, .ref nsh, .ref nsf, .ref nss, .ref nrc, .int (nI jr), .int (nI jd), .int mnumber, .int mwhose, .int msize, .int misParted])), (nrc, .inl (G.2.1, 30, .inl fnrc))] (fun (r : Int32) (u : Nat × Int32 × (Nat → Int32)) => (True) ∧ (u.1 ≤ 30)) (fun u : Nat × Int32 × (Nat → Int32) => [(h0, .inr (12, [.ref nw, .ref nk, .int mhasKept, .ref nt, .int mtaped, .ref nr, .int mrowMany, .int mroundOf, .int mroundFrom, .int mouts, .ref nm, .int mfromHour, .int mtoHour, .ref ns, .int mfrom, .int mto, .int msort, .int misFault, .int mdeep, .int mcoded, .int mlines, .ref nl, .ref nc, .ref nF, .ref np, .ref ntr, .ref nb, .int mbestCost, .ref nso, .ref nsi, .ref nit, .ref nsh, .ref nsf, .ref nss, .ref nrc, .int (nI u.1), .int (nI jd), .int mnumber, .int mwhose, .int msize, .int u.2.1])), (nrc, .inl (G.2.1, 30, .inl u.2.2))]) := by
  refine MI.start (by decide +kernel) (Nat.le_of_ble_eq_true rfl) ?_
  intro p e s m below meth c A ls hC hK hP hD hS hA hl
  have hl : lv_has ls 6 [(0, .ref h0), (1, .int 3), (2, .int 1), (3, .int xx)] := hl
  obtain ⟨hx, hb, hr, hml, hB, hown, hlocks, hnm⟩ := id hC
  refine lv_iconst (v := 4) hx hb dX12_body_0 (by decide) ?_
  refine lv_iload_n hx hb dX12_body_1 rfl (lv_at hl 1 rfl) ?_
  refine lv_imul hx hb dX12_body_2 ?_
  refine eqi (x1 := 12) (by decide) ?_
  refine lv_iload_n hx hb dX12_body_3 rfl (lv_at hl 2 rfl) ?_
  refine lv_iadd hx hb dX12_body_4 ?_
  refine eqi (x1 := 13) (by decide) ?_
  refine lv_tableIn (tgt := 242) hx hb dX12_body_5 (by decide) (by decide) rfl (by decide) ?_
  refine lv_aload_n hx hb dX12_body_242 rfl (lv_at hl 0 rfl) ?_
  refine lv_bipush (v := 40) hx hb dX12_body_243 (by decide) ?_
  refine vV (wr := []) hC hK hl hP hD hS hA (m_began l G h0 40 nw nk mhasKept nt mtaped nr mrowMany mroundOf mroundFrom mouts nm mfromHour mtoHour ns mfrom mto msort misFault mdeep mcoded mlines nl nc nF np ntr nb mbestCost nso nsi nit nsh nsf nss nrc jr (nI jd) mnumber mwhose msize misParted fnrc (by omega)) si_X12_366 [0, 1] [] rfl rfl (by decide) rfl (by decide) (by decide) rfl rfl rfl rfl rfl (Nat.le_of_ble_eq_true rfl) ⟨Nat.le_of_ble_eq_true rfl, Nat.le_of_ble_eq_true rfl⟩ ⟨Nat.le_of_ble_eq_true rfl, Nat.le_of_ble_eq_true rfl⟩ dX12_body_245 (fun u5721 H locs hr5720 hP hD hS => ?_)
  obtain ⟨jr15722, gtrc5723⟩ := u5721
  try dsimp only at hr5720
  have hP : va_P G.1 vwCl [(h0, .inr (12, [.ref nw, .ref nk, .int mhasKept, .ref nt, .int mtaped, .ref nr, .int mrowMany, .int mroundOf, .int mroundFrom, .int mouts, .ref nm, .int mfromHour, .int mtoHour, .ref ns, .int mfrom, .int mto, .int msort, .int misFault, .int mdeep, .int mcoded, .int mlines, .ref nl, .ref nc, .ref nF, .ref np, .ref ntr, .ref nb, .int mbestCost, .ref nso, .ref nsi, .ref nit, .ref nsh, .ref nsf, .ref nss, .ref nrc, .int (nI jr15722), .int (nI jd), .int mnumber, .int mwhose, .int msize, .int misParted])), (nrc, .inl (G.2.1, 30, .inl gtrc5723))] H := hP
  have hD : va_D A [(h0, .inr (12, [.ref nw, .ref nk, .int mhasKept, .ref nt, .int mtaped, .ref nr, .int mrowMany, .int mroundOf, .int mroundFrom, .int mouts, .ref nm, .int mfromHour, .int mtoHour, .ref ns, .int mfrom, .int mto, .int msort, .int misFault, .int mdeep, .int mcoded, .int mlines, .ref nl, .ref nc, .ref nF, .ref np, .ref ntr, .ref nb, .int mbestCost, .ref nso, .ref nsi, .ref nit, .ref nsh, .ref nsf, .ref nss, .ref nrc, .int (nI jr15722), .int (nI jd), .int mnumber, .int mwhose, .int msize, .int misParted])), (nrc, .inl (G.2.1, 30, .inl gtrc5723))] := hD
  have w5724 := hr5720
  refine lv_iconst (v := 0) hx hb dX12_body_248 (by decide) ?_
  refine lv_aload_n hx hb dX12_body_249 rfl (lv_at hl 0 rfl) ?_
  refine lv_iconst (v := 1) hx hb dX12_body_250 (by decide) ?_
  refine lv_iconst (v := 1) hx hb dX12_body_251 (by decide) ?_
  refine lv_iload_n hx hb dX12_body_252 rfl (lv_at hl 3 rfl) ?_
  refine iV (wr := []) hC hK hl hP hD hS hA (m_from11 l G h0 xx nw nk mhasKept nt mtaped nr mrowMany mroundOf mroundFrom mouts nm mfromHour mtoHour ns mfrom mto msort misFault mdeep mcoded mlines nl nc nF np ntr nb mbestCost nso nsi nit nsh nsf nss nrc jr15722 jd mnumber mwhose msize misParted gtrc5723 (by omega) (by omega)) si_X12_357 [0, 1] [] rfl rfl (by decide) rfl (by decide) (by decide) rfl rfl rfl rfl rfl (Nat.le_of_ble_eq_true rfl) ⟨Nat.le_of_ble_eq_true rfl, Nat.le_of_ble_eq_true rfl⟩ ⟨Nat.le_of_ble_eq_true rfl, Nat.le_of_ble_eq_true rfl⟩ dX12_body_253 (fun r5725 u5726 H locs hr5725 hP hD hS => ?_)
  obtain ⟨jr15727, ip15728, gtrc5729⟩ := u5726
  try dsimp only at hr5725
  have hP : va_P G.1 vwCl [(h0, .inr (12, [.ref nw, .ref nk, .int mhasKept, .ref nt, .int mtaped, .ref nr, .int mrowMany, .int mroundOf, .int mroundFrom, .int mouts, .ref nm, .int mfromHour, .int mtoHour, .ref ns, .int mfrom, .int mto, .int msort, .int misFault, .int mdeep, .int mcoded, .int mlines, .ref nl, .ref nc, .ref nF, .ref np, .ref ntr, .ref nb, .int mbestCost, .ref nso, .ref nsi, .ref nit, .ref nsh, .ref nsf, .ref nss, .ref nrc, .int (nI jr15727), .int (nI jd), .int mnumber, .int mwhose, .int msize, .int ip15728])), (nrc, .inl (G.2.1, 30, .inl gtrc5729))] H := hP
  have hD : va_D A [(h0, .inr (12, [.ref nw, .ref nk, .int mhasKept, .ref nt, .int mtaped, .ref nr, .int mrowMany, .int mroundOf, .int mroundFrom, .int mouts, .ref nm, .int mfromHour, .int mtoHour, .ref ns, .int mfrom, .int mto, .int msort, .int misFault, .int mdeep, .int mcoded, .int mlines, .ref nl, .ref nc, .ref nF, .ref np, .ref ntr, .ref nb, .int mbestCost, .ref nso, .ref nsi, .ref nit, .ref nsh, .ref nsf, .ref nss, .ref nrc, .int (nI jr15727), .int (nI jd), .int mnumber, .int mwhose, .int msize, .int ip15728])), (nrc, .inl (G.2.1, 30, .inl gtrc5729))] := hD
  obtain ⟨hr5725, w5730⟩ := hr5725
  refine lv_isub hx hb dX12_body_256 ?_
  exact RI (v := 0 - r5725) hC hP hD hS [0, 1] (jr15727, ip15728, gtrc5729) rfl rfl (by decide) (⟨trivial, by omega⟩) rfl dX12_body_257
set_option maxHeartbeats 4000000 in
set_option maxRecDepth 100000 in
theorem m_from31 (l : Launch) (G : GG) (h0 : Nat) (xx : Int32) (nw : Nat) (nk : Nat) (mhasKept : Int32) (nt : Nat) (mtaped : Int32) (nr : Nat) (mrowMany : Int32) (mroundOf : Int32) (mroundFrom : Int32) (mouts : Int32) (nm : Nat) (mfromHour : Int32) (mtoHour : Int32) (ns : Nat) (mfrom : Int32) (mto : Int32) (msort : Int32) (misFault : Int32) (mdeep : Int32) (mcoded : Int32) (mlines : Int32) (nl : Nat) (nc : Nat) (nF : Nat) (np : Nat) (ntr : Nat) (nb : Nat) (mbestCost : Int32) (nso : Nat) (nsi : Nat) (nit : Nat) (nsh : Nat) (nsf : Nat) (nss : Nat) (nrc : Nat) (jr : Nat) (jd : Nat) (mnumber : Int32) (mwhose : Int32) (msize : Int32) (misParted : Int32) (fnrc : Nat → Int32) (hjr : jr ≤ 30) (hjd : jd < 7) : MI l G yX12_bodyFrom cX12_bodyFrom 5 (some .int) 20 0 0 [.ref h0, .int 3, .int 1, .int xx] [(h0, .inr (12, [.ref nw, .ref nk, .int mhasKept, .ref nt, .int mtaped, .ref nr, .int mrowMany, .int mroundOf, .int mroundFrom, .int mouts, .ref nm, .int mfromHour, .int mtoHour, .ref ns, .int mfrom, .int mto, .int msort, .int misFault, .int mdeep, .int mcoded, .int mlines, .ref nl, .ref nc, .ref nF, .ref np, .ref ntr, .ref nb, .int mbestCost, .ref nso, .ref nsi, .ref nit, .ref nsh, .ref nsf, .ref nss, .ref nrc, .int (nI jr), .int (nI jd), .int mnumber, .int mwhose, .int msize, .int misParted])), (nrc, .inl (G.2.1, 30, .inl fnrc))] (fun (r : Int32) (u : Nat × Int32 × (Nat → Int32)) => (True) ∧ (u.1 ≤ 30)) (fun u : Nat × Int32 × (Nat → Int32) => [(h0, .inr (12, [.ref nw, .ref nk, .int mhasKept, .ref nt, .int mtaped, .ref nr, .int mrowMany, .int mroundOf, .int mroundFrom, .int mouts, .ref nm, .int mfromHour, .int mtoHour, .ref ns, .int mfrom, .int mto, .int msort, .int misFault, .int mdeep, .int mcoded, .int mlines, .ref nl, .ref nc, .ref nF, .ref np, .ref ntr, .ref nb, .int mbestCost, .ref nso, .ref nsi, .ref nit, .ref nsh, .ref nsf, .ref nss, .ref nrc, .int (nI u.1), .int (nI jd), .int mnumber, .int mwhose, .int msize, .int u.2.1])), (nrc, .inl (G.2.1, 30, .inl u.2.2))]) := by
  refine MI.start (by decide +kernel) (Nat.le_of_ble_eq_true rfl) ?_
  intro p e s m below meth c A ls hC hK hP hD hS hA hl
  have hl : lv_has ls 5 [(0, .ref h0), (1, .int 3), (2, .int 1), (3, .int xx)] := hl
  obtain ⟨hx, hb, hr, hml, hB, hown, hlocks, hnm⟩ := id hC
  refine lv_iload_n hx hb dX12_bodyFrom_0 rfl (lv_at hl 1 rfl) ?_
  refine lv_istore (lv' := [(4, .int 3), (0, .ref h0), (1, .int 3), (2, .int 1), (3, .int xx)]) hx hb dX12_bodyFrom_1 hl (by decide) rfl (fun ls hl => ?_)
  refine lv_iload hx hb dX12_bodyFrom_3 (lv_at hl 0 rfl) ?_
  refine lv_iload_n hx hb dX12_bodyFrom_5 rfl (lv_at hl 3 rfl) ?_
  refine pS hC hK hl (m_hasOwn31 l G) si_X12_360 rfl rfl (Nat.le_of_ble_eq_true rfl) ⟨Nat.le_of_ble_eq_true rfl, Nat.le_of_ble_eq_true rfl⟩ ⟨by first | exact Nat.le_of_ble_eq_true rfl | exact Nat.zero_le _, by first | exact Nat.le_of_ble_eq_true rfl | exact Nat.zero_le _⟩ dX12_bodyFrom_6 (fun r5731 hr5731 => ?_)
  obtain rfl := hr5731
  refine lv_if_ne (tgt := 22) hx hb dX12_bodyFrom_9 (by decide) (fun _ => ?_) (fun c9 => absurd c9 (by decide))
  refine lv_aload_n hx hb dX12_bodyFrom_22 rfl (lv_at hl 1 rfl) ?_
  refine lv_iload hx hb dX12_bodyFrom_23 (lv_at hl 0 rfl) ?_
  refine lv_iload_n hx hb dX12_bodyFrom_25 rfl (lv_at hl 3 rfl) ?_
  refine lv_iload_n hx hb dX12_bodyFrom_26 rfl (lv_at hl 4 rfl) ?_
  refine iV (wr := []) hC hK hl hP hD hS hA (m_body31 l G h0 xx nw nk mhasKept nt mtaped nr mrowMany mroundOf mroundFrom mouts nm mfromHour mtoHour ns mfrom mto msort misFault mdeep mcoded mlines nl nc nF np ntr nb mbestCost nso nsi nit nsh nsf nss nrc jr jd mnumber mwhose msize misParted fnrc (by omega) (by omega)) si_X12_363 [0, 1] [] rfl rfl (by decide) rfl (by decide) (by decide) rfl rfl rfl rfl rfl (Nat.le_of_ble_eq_true rfl) ⟨Nat.le_of_ble_eq_true rfl, Nat.le_of_ble_eq_true rfl⟩ ⟨Nat.le_of_ble_eq_true rfl, Nat.le_of_ble_eq_true rfl⟩ dX12_bodyFrom_27 (fun r5733 u5734 H locs hr5733 hP hD hS => ?_)
  obtain ⟨jr15735, ip15736, gtrc5737⟩ := u5734
  try dsimp only at hr5733
  have hP : va_P G.1 vwCl [(h0, .inr (12, [.ref nw, .ref nk, .int mhasKept, .ref nt, .int mtaped, .ref nr, .int mrowMany, .int mroundOf, .int mroundFrom, .int mouts, .ref nm, .int mfromHour, .int mtoHour, .ref ns, .int mfrom, .int mto, .int msort, .int misFault, .int mdeep, .int mcoded, .int mlines, .ref nl, .ref nc, .ref nF, .ref np, .ref ntr, .ref nb, .int mbestCost, .ref nso, .ref nsi, .ref nit, .ref nsh, .ref nsf, .ref nss, .ref nrc, .int (nI jr15735), .int (nI jd), .int mnumber, .int mwhose, .int msize, .int ip15736])), (nrc, .inl (G.2.1, 30, .inl gtrc5737))] H := hP
  have hD : va_D A [(h0, .inr (12, [.ref nw, .ref nk, .int mhasKept, .ref nt, .int mtaped, .ref nr, .int mrowMany, .int mroundOf, .int mroundFrom, .int mouts, .ref nm, .int mfromHour, .int mtoHour, .ref ns, .int mfrom, .int mto, .int msort, .int misFault, .int mdeep, .int mcoded, .int mlines, .ref nl, .ref nc, .ref nF, .ref np, .ref ntr, .ref nb, .int mbestCost, .ref nso, .ref nsi, .ref nit, .ref nsh, .ref nsf, .ref nss, .ref nrc, .int (nI jr15735), .int (nI jd), .int mnumber, .int mwhose, .int msize, .int ip15736])), (nrc, .inl (G.2.1, 30, .inl gtrc5737))] := hD
  obtain ⟨hr5733, w5738⟩ := hr5733
  exact RI (v := r5733) hC hP hD hS [0, 1] (jr15735, ip15736, gtrc5737) rfl rfl (by decide) (⟨trivial, by omega⟩) rfl dX12_bodyFrom_30
set_option maxHeartbeats 4000000 in
set_option maxRecDepth 100000 in
theorem m_from21 (l : Launch) (G : GG) (h0 : Nat) (xx : Int32) (nw : Nat) (nk : Nat) (mhasKept : Int32) (nt : Nat) (mtaped : Int32) (nr : Nat) (mrowMany : Int32) (mroundOf : Int32) (mroundFrom : Int32) (mouts : Int32) (nm : Nat) (mfromHour : Int32) (mtoHour : Int32) (ns : Nat) (mfrom : Int32) (mto : Int32) (msort : Int32) (misFault : Int32) (mdeep : Int32) (mcoded : Int32) (mlines : Int32) (nl : Nat) (nc : Nat) (nF : Nat) (np : Nat) (ntr : Nat) (nb : Nat) (mbestCost : Int32) (nso : Nat) (nsi : Nat) (nit : Nat) (nsh : Nat) (nsf : Nat) (nss : Nat) (nrc : Nat) (jr : Nat) (jd : Nat) (mnumber : Int32) (mwhose : Int32) (msize : Int32) (misParted : Int32) (fnrc : Nat → Int32) (hjr : jr ≤ 30) (hjd : jd < 7) : MI l G yX12_bodyFrom cX12_bodyFrom 5 (some .int) 24 0 0 [.ref h0, .int 2, .int 1, .int xx] [(h0, .inr (12, [.ref nw, .ref nk, .int mhasKept, .ref nt, .int mtaped, .ref nr, .int mrowMany, .int mroundOf, .int mroundFrom, .int mouts, .ref nm, .int mfromHour, .int mtoHour, .ref ns, .int mfrom, .int mto, .int msort, .int misFault, .int mdeep, .int mcoded, .int mlines, .ref nl, .ref nc, .ref nF, .ref np, .ref ntr, .ref nb, .int mbestCost, .ref nso, .ref nsi, .ref nit, .ref nsh, .ref nsf, .ref nss, .ref nrc, .int (nI jr), .int (nI jd), .int mnumber, .int mwhose, .int msize, .int misParted])), (nrc, .inl (G.2.1, 30, .inl fnrc))] (fun (r : Int32) (u : Nat × Int32 × (Nat → Int32)) => (True) ∧ (u.1 ≤ 30)) (fun u : Nat × Int32 × (Nat → Int32) => [(h0, .inr (12, [.ref nw, .ref nk, .int mhasKept, .ref nt, .int mtaped, .ref nr, .int mrowMany, .int mroundOf, .int mroundFrom, .int mouts, .ref nm, .int mfromHour, .int mtoHour, .ref ns, .int mfrom, .int mto, .int msort, .int misFault, .int mdeep, .int mcoded, .int mlines, .ref nl, .ref nc, .ref nF, .ref np, .ref ntr, .ref nb, .int mbestCost, .ref nso, .ref nsi, .ref nit, .ref nsh, .ref nsf, .ref nss, .ref nrc, .int (nI u.1), .int (nI jd), .int mnumber, .int mwhose, .int msize, .int u.2.1])), (nrc, .inl (G.2.1, 30, .inl u.2.2))]) := by
  refine MI.start (by decide +kernel) (Nat.le_of_ble_eq_true rfl) ?_
  intro p e s m below meth c A ls hC hK hP hD hS hA hl
  have hl : lv_has ls 5 [(0, .ref h0), (1, .int 2), (2, .int 1), (3, .int xx)] := hl
  obtain ⟨hx, hb, hr, hml, hB, hown, hlocks, hnm⟩ := id hC
  refine lv_iload_n hx hb dX12_bodyFrom_0 rfl (lv_at hl 1 rfl) ?_
  refine lv_istore (lv' := [(4, .int 2), (0, .ref h0), (1, .int 2), (2, .int 1), (3, .int xx)]) hx hb dX12_bodyFrom_1 hl (by decide) rfl (fun ls hl => ?_)
  refine lv_iload hx hb dX12_bodyFrom_3 (lv_at hl 0 rfl) ?_
  refine lv_iload_n hx hb dX12_bodyFrom_5 rfl (lv_at hl 3 rfl) ?_
  refine pS hC hK hl (m_hasOwn21 l G) si_X12_360 rfl rfl (Nat.le_of_ble_eq_true rfl) ⟨Nat.le_of_ble_eq_true rfl, Nat.le_of_ble_eq_true rfl⟩ ⟨by first | exact Nat.le_of_ble_eq_true rfl | exact Nat.zero_le _, by first | exact Nat.le_of_ble_eq_true rfl | exact Nat.zero_le _⟩ dX12_bodyFrom_6 (fun r5739 hr5739 => ?_)
  obtain rfl := hr5739
  refine lv_if_ne (tgt := 22) hx hb dX12_bodyFrom_9 (by decide) (fun c9 => absurd (by decide) c9) (fun _ => ?_)
  refine lv_iload hx hb dX12_bodyFrom_12 (lv_at hl 0 rfl) ?_
  refine pS hC hK hl (m_above2 l G) si_X12_348 rfl rfl (Nat.le_of_ble_eq_true rfl) ⟨Nat.le_of_ble_eq_true rfl, Nat.le_of_ble_eq_true rfl⟩ ⟨by first | exact Nat.le_of_ble_eq_true rfl | exact Nat.zero_le _, by first | exact Nat.le_of_ble_eq_true rfl | exact Nat.zero_le _⟩ dX12_bodyFrom_14 (fun r5741 hr5741 => ?_)
  obtain rfl := hr5741
  refine lv_istore (lv' := [(4, .int 0), (0, .ref h0), (1, .int 2), (2, .int 1), (3, .int xx)]) hx hb dX12_bodyFrom_17 hl (by decide) rfl (fun ls hl => ?_)
  refine lv_goto (tgt := 3) hx hb dX12_bodyFrom_19 (by decide) ?_
  refine lv_iload hx hb dX12_bodyFrom_3 (lv_at hl 0 rfl) ?_
  refine lv_iload_n hx hb dX12_bodyFrom_5 rfl (lv_at hl 3 rfl) ?_
  refine pS hC hK hl (m_hasOwn01 l G) si_X12_360 rfl rfl (Nat.le_of_ble_eq_true rfl) ⟨Nat.le_of_ble_eq_true rfl, Nat.le_of_ble_eq_true rfl⟩ ⟨by first | exact Nat.le_of_ble_eq_true rfl | exact Nat.zero_le _, by first | exact Nat.le_of_ble_eq_true rfl | exact Nat.zero_le _⟩ dX12_bodyFrom_6 (fun r5743 hr5743 => ?_)
  obtain rfl := hr5743
  refine lv_if_ne (tgt := 22) hx hb dX12_bodyFrom_9 (by decide) (fun _ => ?_) (fun c9 => absurd c9 (by decide))
  refine lv_aload_n hx hb dX12_bodyFrom_22 rfl (lv_at hl 1 rfl) ?_
  refine lv_iload hx hb dX12_bodyFrom_23 (lv_at hl 0 rfl) ?_
  refine lv_iload_n hx hb dX12_bodyFrom_25 rfl (lv_at hl 3 rfl) ?_
  refine lv_iload_n hx hb dX12_bodyFrom_26 rfl (lv_at hl 4 rfl) ?_
  refine iV (wr := []) hC hK hl hP hD hS hA (m_body01 l G h0 xx nw nk mhasKept nt mtaped nr mrowMany mroundOf mroundFrom mouts nm mfromHour mtoHour ns mfrom mto msort misFault mdeep mcoded mlines nl nc nF np ntr nb mbestCost nso nsi nit nsh nsf nss nrc jr jd mnumber mwhose msize misParted fnrc (by omega) (by omega)) si_X12_363 [0, 1] [] rfl rfl (by decide) rfl (by decide) (by decide) rfl rfl rfl rfl rfl (Nat.le_of_ble_eq_true rfl) ⟨Nat.le_of_ble_eq_true rfl, Nat.le_of_ble_eq_true rfl⟩ ⟨Nat.le_of_ble_eq_true rfl, Nat.le_of_ble_eq_true rfl⟩ dX12_bodyFrom_27 (fun r5745 u5746 H locs hr5745 hP hD hS => ?_)
  obtain ⟨jr15747, ip15748, gtrc5749⟩ := u5746
  try dsimp only at hr5745
  have hP : va_P G.1 vwCl [(h0, .inr (12, [.ref nw, .ref nk, .int mhasKept, .ref nt, .int mtaped, .ref nr, .int mrowMany, .int mroundOf, .int mroundFrom, .int mouts, .ref nm, .int mfromHour, .int mtoHour, .ref ns, .int mfrom, .int mto, .int msort, .int misFault, .int mdeep, .int mcoded, .int mlines, .ref nl, .ref nc, .ref nF, .ref np, .ref ntr, .ref nb, .int mbestCost, .ref nso, .ref nsi, .ref nit, .ref nsh, .ref nsf, .ref nss, .ref nrc, .int (nI jr15747), .int (nI jd), .int mnumber, .int mwhose, .int msize, .int ip15748])), (nrc, .inl (G.2.1, 30, .inl gtrc5749))] H := hP
  have hD : va_D A [(h0, .inr (12, [.ref nw, .ref nk, .int mhasKept, .ref nt, .int mtaped, .ref nr, .int mrowMany, .int mroundOf, .int mroundFrom, .int mouts, .ref nm, .int mfromHour, .int mtoHour, .ref ns, .int mfrom, .int mto, .int msort, .int misFault, .int mdeep, .int mcoded, .int mlines, .ref nl, .ref nc, .ref nF, .ref np, .ref ntr, .ref nb, .int mbestCost, .ref nso, .ref nsi, .ref nit, .ref nsh, .ref nsf, .ref nss, .ref nrc, .int (nI jr15747), .int (nI jd), .int mnumber, .int mwhose, .int msize, .int ip15748])), (nrc, .inl (G.2.1, 30, .inl gtrc5749))] := hD
  obtain ⟨hr5745, w5750⟩ := hr5745
  exact RI (v := r5745) hC hP hD hS [0, 1] (jr15747, ip15748, gtrc5749) rfl rfl (by decide) (⟨trivial, by omega⟩) rfl dX12_bodyFrom_30
set_option maxHeartbeats 4000000 in
set_option maxRecDepth 100000 in
theorem m_from41 (l : Launch) (G : GG) (h0 : Nat) (xx : Int32) (nw : Nat) (nk : Nat) (mhasKept : Int32) (nt : Nat) (mtaped : Int32) (nr : Nat) (mrowMany : Int32) (mroundOf : Int32) (mroundFrom : Int32) (mouts : Int32) (nm : Nat) (mfromHour : Int32) (mtoHour : Int32) (ns : Nat) (mfrom : Int32) (mto : Int32) (msort : Int32) (misFault : Int32) (mdeep : Int32) (mcoded : Int32) (mlines : Int32) (nl : Nat) (nc : Nat) (nF : Nat) (np : Nat) (ntr : Nat) (nb : Nat) (mbestCost : Int32) (nso : Nat) (nsi : Nat) (nit : Nat) (nsh : Nat) (nsf : Nat) (nss : Nat) (nrc : Nat) (jr : Nat) (jd : Nat) (mnumber : Int32) (mwhose : Int32) (msize : Int32) (misParted : Int32) (fnrc : Nat → Int32) (hjr : jr ≤ 30) (hjd : jd < 7) : MI l G yX12_bodyFrom cX12_bodyFrom 5 (some .int) 24 0 0 [.ref h0, .int 4, .int 1, .int xx] [(h0, .inr (12, [.ref nw, .ref nk, .int mhasKept, .ref nt, .int mtaped, .ref nr, .int mrowMany, .int mroundOf, .int mroundFrom, .int mouts, .ref nm, .int mfromHour, .int mtoHour, .ref ns, .int mfrom, .int mto, .int msort, .int misFault, .int mdeep, .int mcoded, .int mlines, .ref nl, .ref nc, .ref nF, .ref np, .ref ntr, .ref nb, .int mbestCost, .ref nso, .ref nsi, .ref nit, .ref nsh, .ref nsf, .ref nss, .ref nrc, .int (nI jr), .int (nI jd), .int mnumber, .int mwhose, .int msize, .int misParted])), (nrc, .inl (G.2.1, 30, .inl fnrc))] (fun (r : Int32) (u : Nat × Int32 × (Nat → Int32)) => (True) ∧ (u.1 ≤ 30)) (fun u : Nat × Int32 × (Nat → Int32) => [(h0, .inr (12, [.ref nw, .ref nk, .int mhasKept, .ref nt, .int mtaped, .ref nr, .int mrowMany, .int mroundOf, .int mroundFrom, .int mouts, .ref nm, .int mfromHour, .int mtoHour, .ref ns, .int mfrom, .int mto, .int msort, .int misFault, .int mdeep, .int mcoded, .int mlines, .ref nl, .ref nc, .ref nF, .ref np, .ref ntr, .ref nb, .int mbestCost, .ref nso, .ref nsi, .ref nit, .ref nsh, .ref nsf, .ref nss, .ref nrc, .int (nI u.1), .int (nI jd), .int mnumber, .int mwhose, .int msize, .int u.2.1])), (nrc, .inl (G.2.1, 30, .inl u.2.2))]) := by
  refine MI.start (by decide +kernel) (Nat.le_of_ble_eq_true rfl) ?_
  intro p e s m below meth c A ls hC hK hP hD hS hA hl
  have hl : lv_has ls 5 [(0, .ref h0), (1, .int 4), (2, .int 1), (3, .int xx)] := hl
  obtain ⟨hx, hb, hr, hml, hB, hown, hlocks, hnm⟩ := id hC
  refine lv_iload_n hx hb dX12_bodyFrom_0 rfl (lv_at hl 1 rfl) ?_
  refine lv_istore (lv' := [(4, .int 4), (0, .ref h0), (1, .int 4), (2, .int 1), (3, .int xx)]) hx hb dX12_bodyFrom_1 hl (by decide) rfl (fun ls hl => ?_)
  refine lv_iload hx hb dX12_bodyFrom_3 (lv_at hl 0 rfl) ?_
  refine lv_iload_n hx hb dX12_bodyFrom_5 rfl (lv_at hl 3 rfl) ?_
  refine pS hC hK hl (m_hasOwn41 l G) si_X12_360 rfl rfl (Nat.le_of_ble_eq_true rfl) ⟨Nat.le_of_ble_eq_true rfl, Nat.le_of_ble_eq_true rfl⟩ ⟨by first | exact Nat.le_of_ble_eq_true rfl | exact Nat.zero_le _, by first | exact Nat.le_of_ble_eq_true rfl | exact Nat.zero_le _⟩ dX12_bodyFrom_6 (fun r5751 hr5751 => ?_)
  obtain rfl := hr5751
  refine lv_if_ne (tgt := 22) hx hb dX12_bodyFrom_9 (by decide) (fun c9 => absurd (by decide) c9) (fun _ => ?_)
  refine lv_iload hx hb dX12_bodyFrom_12 (lv_at hl 0 rfl) ?_
  refine pS hC hK hl (m_above4 l G) si_X12_348 rfl rfl (Nat.le_of_ble_eq_true rfl) ⟨Nat.le_of_ble_eq_true rfl, Nat.le_of_ble_eq_true rfl⟩ ⟨by first | exact Nat.le_of_ble_eq_true rfl | exact Nat.zero_le _, by first | exact Nat.le_of_ble_eq_true rfl | exact Nat.zero_le _⟩ dX12_bodyFrom_14 (fun r5753 hr5753 => ?_)
  obtain rfl := hr5753
  refine lv_istore (lv' := [(4, .int 0), (0, .ref h0), (1, .int 4), (2, .int 1), (3, .int xx)]) hx hb dX12_bodyFrom_17 hl (by decide) rfl (fun ls hl => ?_)
  refine lv_goto (tgt := 3) hx hb dX12_bodyFrom_19 (by decide) ?_
  refine lv_iload hx hb dX12_bodyFrom_3 (lv_at hl 0 rfl) ?_
  refine lv_iload_n hx hb dX12_bodyFrom_5 rfl (lv_at hl 3 rfl) ?_
  refine pS hC hK hl (m_hasOwn01 l G) si_X12_360 rfl rfl (Nat.le_of_ble_eq_true rfl) ⟨Nat.le_of_ble_eq_true rfl, Nat.le_of_ble_eq_true rfl⟩ ⟨by first | exact Nat.le_of_ble_eq_true rfl | exact Nat.zero_le _, by first | exact Nat.le_of_ble_eq_true rfl | exact Nat.zero_le _⟩ dX12_bodyFrom_6 (fun r5755 hr5755 => ?_)
  obtain rfl := hr5755
  refine lv_if_ne (tgt := 22) hx hb dX12_bodyFrom_9 (by decide) (fun _ => ?_) (fun c9 => absurd c9 (by decide))
  refine lv_aload_n hx hb dX12_bodyFrom_22 rfl (lv_at hl 1 rfl) ?_
  refine lv_iload hx hb dX12_bodyFrom_23 (lv_at hl 0 rfl) ?_
  refine lv_iload_n hx hb dX12_bodyFrom_25 rfl (lv_at hl 3 rfl) ?_
  refine lv_iload_n hx hb dX12_bodyFrom_26 rfl (lv_at hl 4 rfl) ?_
  refine iV (wr := []) hC hK hl hP hD hS hA (m_body01 l G h0 xx nw nk mhasKept nt mtaped nr mrowMany mroundOf mroundFrom mouts nm mfromHour mtoHour ns mfrom mto msort misFault mdeep mcoded mlines nl nc nF np ntr nb mbestCost nso nsi nit nsh nsf nss nrc jr jd mnumber mwhose msize misParted fnrc (by omega) (by omega)) si_X12_363 [0, 1] [] rfl rfl (by decide) rfl (by decide) (by decide) rfl rfl rfl rfl rfl (Nat.le_of_ble_eq_true rfl) ⟨Nat.le_of_ble_eq_true rfl, Nat.le_of_ble_eq_true rfl⟩ ⟨Nat.le_of_ble_eq_true rfl, Nat.le_of_ble_eq_true rfl⟩ dX12_bodyFrom_27 (fun r5757 u5758 H locs hr5757 hP hD hS => ?_)
  obtain ⟨jr15759, ip15760, gtrc5761⟩ := u5758
  try dsimp only at hr5757
  have hP : va_P G.1 vwCl [(h0, .inr (12, [.ref nw, .ref nk, .int mhasKept, .ref nt, .int mtaped, .ref nr, .int mrowMany, .int mroundOf, .int mroundFrom, .int mouts, .ref nm, .int mfromHour, .int mtoHour, .ref ns, .int mfrom, .int mto, .int msort, .int misFault, .int mdeep, .int mcoded, .int mlines, .ref nl, .ref nc, .ref nF, .ref np, .ref ntr, .ref nb, .int mbestCost, .ref nso, .ref nsi, .ref nit, .ref nsh, .ref nsf, .ref nss, .ref nrc, .int (nI jr15759), .int (nI jd), .int mnumber, .int mwhose, .int msize, .int ip15760])), (nrc, .inl (G.2.1, 30, .inl gtrc5761))] H := hP
  have hD : va_D A [(h0, .inr (12, [.ref nw, .ref nk, .int mhasKept, .ref nt, .int mtaped, .ref nr, .int mrowMany, .int mroundOf, .int mroundFrom, .int mouts, .ref nm, .int mfromHour, .int mtoHour, .ref ns, .int mfrom, .int mto, .int msort, .int misFault, .int mdeep, .int mcoded, .int mlines, .ref nl, .ref nc, .ref nF, .ref np, .ref ntr, .ref nb, .int mbestCost, .ref nso, .ref nsi, .ref nit, .ref nsh, .ref nsf, .ref nss, .ref nrc, .int (nI jr15759), .int (nI jd), .int mnumber, .int mwhose, .int msize, .int ip15760])), (nrc, .inl (G.2.1, 30, .inl gtrc5761))] := hD
  obtain ⟨hr5757, w5762⟩ := hr5757
  exact RI (v := r5757) hC hP hD hS [0, 1] (jr15759, ip15760, gtrc5761) rfl rfl (by decide) (⟨trivial, by omega⟩) rfl dX12_bodyFrom_30
set_option maxHeartbeats 4000000 in
set_option maxRecDepth 100000 in
theorem m_from51 (l : Launch) (G : GG) (h0 : Nat) (xx : Int32) (nw : Nat) (nk : Nat) (mhasKept : Int32) (nt : Nat) (mtaped : Int32) (nr : Nat) (mrowMany : Int32) (mroundOf : Int32) (mroundFrom : Int32) (mouts : Int32) (nm : Nat) (mfromHour : Int32) (mtoHour : Int32) (ns : Nat) (mfrom : Int32) (mto : Int32) (msort : Int32) (misFault : Int32) (mdeep : Int32) (mcoded : Int32) (mlines : Int32) (nl : Nat) (nc : Nat) (nF : Nat) (np : Nat) (ntr : Nat) (nb : Nat) (mbestCost : Int32) (nso : Nat) (nsi : Nat) (nit : Nat) (nsh : Nat) (nsf : Nat) (nss : Nat) (nrc : Nat) (jr : Nat) (jd : Nat) (mnumber : Int32) (mwhose : Int32) (msize : Int32) (misParted : Int32) (fnrc : Nat → Int32) (hjr : jr ≤ 30) (hjd : jd < 7) : MI l G yX12_bodyFrom cX12_bodyFrom 5 (some .int) 24 0 0 [.ref h0, .int 5, .int 1, .int xx] [(h0, .inr (12, [.ref nw, .ref nk, .int mhasKept, .ref nt, .int mtaped, .ref nr, .int mrowMany, .int mroundOf, .int mroundFrom, .int mouts, .ref nm, .int mfromHour, .int mtoHour, .ref ns, .int mfrom, .int mto, .int msort, .int misFault, .int mdeep, .int mcoded, .int mlines, .ref nl, .ref nc, .ref nF, .ref np, .ref ntr, .ref nb, .int mbestCost, .ref nso, .ref nsi, .ref nit, .ref nsh, .ref nsf, .ref nss, .ref nrc, .int (nI jr), .int (nI jd), .int mnumber, .int mwhose, .int msize, .int misParted])), (nrc, .inl (G.2.1, 30, .inl fnrc))] (fun (r : Int32) (u : Nat × Int32 × (Nat → Int32)) => (True) ∧ (u.1 ≤ 30)) (fun u : Nat × Int32 × (Nat → Int32) => [(h0, .inr (12, [.ref nw, .ref nk, .int mhasKept, .ref nt, .int mtaped, .ref nr, .int mrowMany, .int mroundOf, .int mroundFrom, .int mouts, .ref nm, .int mfromHour, .int mtoHour, .ref ns, .int mfrom, .int mto, .int msort, .int misFault, .int mdeep, .int mcoded, .int mlines, .ref nl, .ref nc, .ref nF, .ref np, .ref ntr, .ref nb, .int mbestCost, .ref nso, .ref nsi, .ref nit, .ref nsh, .ref nsf, .ref nss, .ref nrc, .int (nI u.1), .int (nI jd), .int mnumber, .int mwhose, .int msize, .int u.2.1])), (nrc, .inl (G.2.1, 30, .inl u.2.2))]) := by
  refine MI.start (by decide +kernel) (Nat.le_of_ble_eq_true rfl) ?_
  intro p e s m below meth c A ls hC hK hP hD hS hA hl
  have hl : lv_has ls 5 [(0, .ref h0), (1, .int 5), (2, .int 1), (3, .int xx)] := hl
  obtain ⟨hx, hb, hr, hml, hB, hown, hlocks, hnm⟩ := id hC
  refine lv_iload_n hx hb dX12_bodyFrom_0 rfl (lv_at hl 1 rfl) ?_
  refine lv_istore (lv' := [(4, .int 5), (0, .ref h0), (1, .int 5), (2, .int 1), (3, .int xx)]) hx hb dX12_bodyFrom_1 hl (by decide) rfl (fun ls hl => ?_)
  refine lv_iload hx hb dX12_bodyFrom_3 (lv_at hl 0 rfl) ?_
  refine lv_iload_n hx hb dX12_bodyFrom_5 rfl (lv_at hl 3 rfl) ?_
  refine pS hC hK hl (m_hasOwn51 l G) si_X12_360 rfl rfl (Nat.le_of_ble_eq_true rfl) ⟨Nat.le_of_ble_eq_true rfl, Nat.le_of_ble_eq_true rfl⟩ ⟨by first | exact Nat.le_of_ble_eq_true rfl | exact Nat.zero_le _, by first | exact Nat.le_of_ble_eq_true rfl | exact Nat.zero_le _⟩ dX12_bodyFrom_6 (fun r5763 hr5763 => ?_)
  obtain rfl := hr5763
  refine lv_if_ne (tgt := 22) hx hb dX12_bodyFrom_9 (by decide) (fun c9 => absurd (by decide) c9) (fun _ => ?_)
  refine lv_iload hx hb dX12_bodyFrom_12 (lv_at hl 0 rfl) ?_
  refine pS hC hK hl (m_above5 l G) si_X12_348 rfl rfl (Nat.le_of_ble_eq_true rfl) ⟨Nat.le_of_ble_eq_true rfl, Nat.le_of_ble_eq_true rfl⟩ ⟨by first | exact Nat.le_of_ble_eq_true rfl | exact Nat.zero_le _, by first | exact Nat.le_of_ble_eq_true rfl | exact Nat.zero_le _⟩ dX12_bodyFrom_14 (fun r5765 hr5765 => ?_)
  obtain rfl := hr5765
  refine lv_istore (lv' := [(4, .int 4), (0, .ref h0), (1, .int 5), (2, .int 1), (3, .int xx)]) hx hb dX12_bodyFrom_17 hl (by decide) rfl (fun ls hl => ?_)
  refine lv_goto (tgt := 3) hx hb dX12_bodyFrom_19 (by decide) ?_
  refine lv_iload hx hb dX12_bodyFrom_3 (lv_at hl 0 rfl) ?_
  refine lv_iload_n hx hb dX12_bodyFrom_5 rfl (lv_at hl 3 rfl) ?_
  refine pS hC hK hl (m_hasOwn41 l G) si_X12_360 rfl rfl (Nat.le_of_ble_eq_true rfl) ⟨Nat.le_of_ble_eq_true rfl, Nat.le_of_ble_eq_true rfl⟩ ⟨by first | exact Nat.le_of_ble_eq_true rfl | exact Nat.zero_le _, by first | exact Nat.le_of_ble_eq_true rfl | exact Nat.zero_le _⟩ dX12_bodyFrom_6 (fun r5767 hr5767 => ?_)
  obtain rfl := hr5767
  refine lv_if_ne (tgt := 22) hx hb dX12_bodyFrom_9 (by decide) (fun c9 => absurd (by decide) c9) (fun _ => ?_)
  refine lv_iload hx hb dX12_bodyFrom_12 (lv_at hl 0 rfl) ?_
  refine pS hC hK hl (m_above4 l G) si_X12_348 rfl rfl (Nat.le_of_ble_eq_true rfl) ⟨Nat.le_of_ble_eq_true rfl, Nat.le_of_ble_eq_true rfl⟩ ⟨by first | exact Nat.le_of_ble_eq_true rfl | exact Nat.zero_le _, by first | exact Nat.le_of_ble_eq_true rfl | exact Nat.zero_le _⟩ dX12_bodyFrom_14 (fun r5769 hr5769 => ?_)
  obtain rfl := hr5769
  refine lv_istore (lv' := [(4, .int 0), (0, .ref h0), (1, .int 5), (2, .int 1), (3, .int xx)]) hx hb dX12_bodyFrom_17 hl (by decide) rfl (fun ls hl => ?_)
  refine lv_goto (tgt := 3) hx hb dX12_bodyFrom_19 (by decide) ?_
  refine lv_iload hx hb dX12_bodyFrom_3 (lv_at hl 0 rfl) ?_
  refine lv_iload_n hx hb dX12_bodyFrom_5 rfl (lv_at hl 3 rfl) ?_
  refine pS hC hK hl (m_hasOwn01 l G) si_X12_360 rfl rfl (Nat.le_of_ble_eq_true rfl) ⟨Nat.le_of_ble_eq_true rfl, Nat.le_of_ble_eq_true rfl⟩ ⟨by first | exact Nat.le_of_ble_eq_true rfl | exact Nat.zero_le _, by first | exact Nat.le_of_ble_eq_true rfl | exact Nat.zero_le _⟩ dX12_bodyFrom_6 (fun r5771 hr5771 => ?_)
  obtain rfl := hr5771
  refine lv_if_ne (tgt := 22) hx hb dX12_bodyFrom_9 (by decide) (fun _ => ?_) (fun c9 => absurd c9 (by decide))
  refine lv_aload_n hx hb dX12_bodyFrom_22 rfl (lv_at hl 1 rfl) ?_
  refine lv_iload hx hb dX12_bodyFrom_23 (lv_at hl 0 rfl) ?_
  refine lv_iload_n hx hb dX12_bodyFrom_25 rfl (lv_at hl 3 rfl) ?_
  refine lv_iload_n hx hb dX12_bodyFrom_26 rfl (lv_at hl 4 rfl) ?_
  refine iV (wr := []) hC hK hl hP hD hS hA (m_body01 l G h0 xx nw nk mhasKept nt mtaped nr mrowMany mroundOf mroundFrom mouts nm mfromHour mtoHour ns mfrom mto msort misFault mdeep mcoded mlines nl nc nF np ntr nb mbestCost nso nsi nit nsh nsf nss nrc jr jd mnumber mwhose msize misParted fnrc (by omega) (by omega)) si_X12_363 [0, 1] [] rfl rfl (by decide) rfl (by decide) (by decide) rfl rfl rfl rfl rfl (Nat.le_of_ble_eq_true rfl) ⟨Nat.le_of_ble_eq_true rfl, Nat.le_of_ble_eq_true rfl⟩ ⟨Nat.le_of_ble_eq_true rfl, Nat.le_of_ble_eq_true rfl⟩ dX12_bodyFrom_27 (fun r5773 u5774 H locs hr5773 hP hD hS => ?_)
  obtain ⟨jr15775, ip15776, gtrc5777⟩ := u5774
  try dsimp only at hr5773
  have hP : va_P G.1 vwCl [(h0, .inr (12, [.ref nw, .ref nk, .int mhasKept, .ref nt, .int mtaped, .ref nr, .int mrowMany, .int mroundOf, .int mroundFrom, .int mouts, .ref nm, .int mfromHour, .int mtoHour, .ref ns, .int mfrom, .int mto, .int msort, .int misFault, .int mdeep, .int mcoded, .int mlines, .ref nl, .ref nc, .ref nF, .ref np, .ref ntr, .ref nb, .int mbestCost, .ref nso, .ref nsi, .ref nit, .ref nsh, .ref nsf, .ref nss, .ref nrc, .int (nI jr15775), .int (nI jd), .int mnumber, .int mwhose, .int msize, .int ip15776])), (nrc, .inl (G.2.1, 30, .inl gtrc5777))] H := hP
  have hD : va_D A [(h0, .inr (12, [.ref nw, .ref nk, .int mhasKept, .ref nt, .int mtaped, .ref nr, .int mrowMany, .int mroundOf, .int mroundFrom, .int mouts, .ref nm, .int mfromHour, .int mtoHour, .ref ns, .int mfrom, .int mto, .int msort, .int misFault, .int mdeep, .int mcoded, .int mlines, .ref nl, .ref nc, .ref nF, .ref np, .ref ntr, .ref nb, .int mbestCost, .ref nso, .ref nsi, .ref nit, .ref nsh, .ref nsf, .ref nss, .ref nrc, .int (nI jr15775), .int (nI jd), .int mnumber, .int mwhose, .int msize, .int ip15776])), (nrc, .inl (G.2.1, 30, .inl gtrc5777))] := hD
  obtain ⟨hr5773, w5778⟩ := hr5773
  exact RI (v := r5773) hC hP hD hS [0, 1] (jr15775, ip15776, gtrc5777) rfl rfl (by decide) (⟨trivial, by omega⟩) rfl dX12_bodyFrom_30
set_option maxHeartbeats 4000000 in
set_option maxRecDepth 100000 in
theorem m_from61 (l : Launch) (G : GG) (h0 : Nat) (xx : Int32) (nw : Nat) (nk : Nat) (mhasKept : Int32) (nt : Nat) (mtaped : Int32) (nr : Nat) (mrowMany : Int32) (mroundOf : Int32) (mroundFrom : Int32) (mouts : Int32) (nm : Nat) (mfromHour : Int32) (mtoHour : Int32) (ns : Nat) (mfrom : Int32) (mto : Int32) (msort : Int32) (misFault : Int32) (mdeep : Int32) (mcoded : Int32) (mlines : Int32) (nl : Nat) (nc : Nat) (nF : Nat) (np : Nat) (ntr : Nat) (nb : Nat) (mbestCost : Int32) (nso : Nat) (nsi : Nat) (nit : Nat) (nsh : Nat) (nsf : Nat) (nss : Nat) (nrc : Nat) (jr : Nat) (jd : Nat) (mnumber : Int32) (mwhose : Int32) (msize : Int32) (misParted : Int32) (fnrc : Nat → Int32) (hjr : jr ≤ 30) (hjd : jd < 7) : MI l G yX12_bodyFrom cX12_bodyFrom 5 (some .int) 24 0 0 [.ref h0, .int 6, .int 1, .int xx] [(h0, .inr (12, [.ref nw, .ref nk, .int mhasKept, .ref nt, .int mtaped, .ref nr, .int mrowMany, .int mroundOf, .int mroundFrom, .int mouts, .ref nm, .int mfromHour, .int mtoHour, .ref ns, .int mfrom, .int mto, .int msort, .int misFault, .int mdeep, .int mcoded, .int mlines, .ref nl, .ref nc, .ref nF, .ref np, .ref ntr, .ref nb, .int mbestCost, .ref nso, .ref nsi, .ref nit, .ref nsh, .ref nsf, .ref nss, .ref nrc, .int (nI jr), .int (nI jd), .int mnumber, .int mwhose, .int msize, .int misParted])), (nrc, .inl (G.2.1, 30, .inl fnrc))] (fun (r : Int32) (u : Nat × Int32 × (Nat → Int32)) => (True) ∧ (u.1 ≤ 30)) (fun u : Nat × Int32 × (Nat → Int32) => [(h0, .inr (12, [.ref nw, .ref nk, .int mhasKept, .ref nt, .int mtaped, .ref nr, .int mrowMany, .int mroundOf, .int mroundFrom, .int mouts, .ref nm, .int mfromHour, .int mtoHour, .ref ns, .int mfrom, .int mto, .int msort, .int misFault, .int mdeep, .int mcoded, .int mlines, .ref nl, .ref nc, .ref nF, .ref np, .ref ntr, .ref nb, .int mbestCost, .ref nso, .ref nsi, .ref nit, .ref nsh, .ref nsf, .ref nss, .ref nrc, .int (nI u.1), .int (nI jd), .int mnumber, .int mwhose, .int msize, .int u.2.1])), (nrc, .inl (G.2.1, 30, .inl u.2.2))]) := by
  refine MI.start (by decide +kernel) (Nat.le_of_ble_eq_true rfl) ?_
  intro p e s m below meth c A ls hC hK hP hD hS hA hl
  have hl : lv_has ls 5 [(0, .ref h0), (1, .int 6), (2, .int 1), (3, .int xx)] := hl
  obtain ⟨hx, hb, hr, hml, hB, hown, hlocks, hnm⟩ := id hC
  refine lv_iload_n hx hb dX12_bodyFrom_0 rfl (lv_at hl 1 rfl) ?_
  refine lv_istore (lv' := [(4, .int 6), (0, .ref h0), (1, .int 6), (2, .int 1), (3, .int xx)]) hx hb dX12_bodyFrom_1 hl (by decide) rfl (fun ls hl => ?_)
  refine lv_iload hx hb dX12_bodyFrom_3 (lv_at hl 0 rfl) ?_
  refine lv_iload_n hx hb dX12_bodyFrom_5 rfl (lv_at hl 3 rfl) ?_
  refine pS hC hK hl (m_hasOwn61 l G) si_X12_360 rfl rfl (Nat.le_of_ble_eq_true rfl) ⟨Nat.le_of_ble_eq_true rfl, Nat.le_of_ble_eq_true rfl⟩ ⟨by first | exact Nat.le_of_ble_eq_true rfl | exact Nat.zero_le _, by first | exact Nat.le_of_ble_eq_true rfl | exact Nat.zero_le _⟩ dX12_bodyFrom_6 (fun r5779 hr5779 => ?_)
  obtain rfl := hr5779
  refine lv_if_ne (tgt := 22) hx hb dX12_bodyFrom_9 (by decide) (fun c9 => absurd (by decide) c9) (fun _ => ?_)
  refine lv_iload hx hb dX12_bodyFrom_12 (lv_at hl 0 rfl) ?_
  refine pS hC hK hl (m_above6 l G) si_X12_348 rfl rfl (Nat.le_of_ble_eq_true rfl) ⟨Nat.le_of_ble_eq_true rfl, Nat.le_of_ble_eq_true rfl⟩ ⟨by first | exact Nat.le_of_ble_eq_true rfl | exact Nat.zero_le _, by first | exact Nat.le_of_ble_eq_true rfl | exact Nat.zero_le _⟩ dX12_bodyFrom_14 (fun r5781 hr5781 => ?_)
  obtain rfl := hr5781
  refine lv_istore (lv' := [(4, .int 0), (0, .ref h0), (1, .int 6), (2, .int 1), (3, .int xx)]) hx hb dX12_bodyFrom_17 hl (by decide) rfl (fun ls hl => ?_)
  refine lv_goto (tgt := 3) hx hb dX12_bodyFrom_19 (by decide) ?_
  refine lv_iload hx hb dX12_bodyFrom_3 (lv_at hl 0 rfl) ?_
  refine lv_iload_n hx hb dX12_bodyFrom_5 rfl (lv_at hl 3 rfl) ?_
  refine pS hC hK hl (m_hasOwn01 l G) si_X12_360 rfl rfl (Nat.le_of_ble_eq_true rfl) ⟨Nat.le_of_ble_eq_true rfl, Nat.le_of_ble_eq_true rfl⟩ ⟨by first | exact Nat.le_of_ble_eq_true rfl | exact Nat.zero_le _, by first | exact Nat.le_of_ble_eq_true rfl | exact Nat.zero_le _⟩ dX12_bodyFrom_6 (fun r5783 hr5783 => ?_)
  obtain rfl := hr5783
  refine lv_if_ne (tgt := 22) hx hb dX12_bodyFrom_9 (by decide) (fun _ => ?_) (fun c9 => absurd c9 (by decide))
  refine lv_aload_n hx hb dX12_bodyFrom_22 rfl (lv_at hl 1 rfl) ?_
  refine lv_iload hx hb dX12_bodyFrom_23 (lv_at hl 0 rfl) ?_
  refine lv_iload_n hx hb dX12_bodyFrom_25 rfl (lv_at hl 3 rfl) ?_
  refine lv_iload_n hx hb dX12_bodyFrom_26 rfl (lv_at hl 4 rfl) ?_
  refine iV (wr := []) hC hK hl hP hD hS hA (m_body01 l G h0 xx nw nk mhasKept nt mtaped nr mrowMany mroundOf mroundFrom mouts nm mfromHour mtoHour ns mfrom mto msort misFault mdeep mcoded mlines nl nc nF np ntr nb mbestCost nso nsi nit nsh nsf nss nrc jr jd mnumber mwhose msize misParted fnrc (by omega) (by omega)) si_X12_363 [0, 1] [] rfl rfl (by decide) rfl (by decide) (by decide) rfl rfl rfl rfl rfl (Nat.le_of_ble_eq_true rfl) ⟨Nat.le_of_ble_eq_true rfl, Nat.le_of_ble_eq_true rfl⟩ ⟨Nat.le_of_ble_eq_true rfl, Nat.le_of_ble_eq_true rfl⟩ dX12_bodyFrom_27 (fun r5785 u5786 H locs hr5785 hP hD hS => ?_)
  obtain ⟨jr15787, ip15788, gtrc5789⟩ := u5786
  try dsimp only at hr5785
  have hP : va_P G.1 vwCl [(h0, .inr (12, [.ref nw, .ref nk, .int mhasKept, .ref nt, .int mtaped, .ref nr, .int mrowMany, .int mroundOf, .int mroundFrom, .int mouts, .ref nm, .int mfromHour, .int mtoHour, .ref ns, .int mfrom, .int mto, .int msort, .int misFault, .int mdeep, .int mcoded, .int mlines, .ref nl, .ref nc, .ref nF, .ref np, .ref ntr, .ref nb, .int mbestCost, .ref nso, .ref nsi, .ref nit, .ref nsh, .ref nsf, .ref nss, .ref nrc, .int (nI jr15787), .int (nI jd), .int mnumber, .int mwhose, .int msize, .int ip15788])), (nrc, .inl (G.2.1, 30, .inl gtrc5789))] H := hP
  have hD : va_D A [(h0, .inr (12, [.ref nw, .ref nk, .int mhasKept, .ref nt, .int mtaped, .ref nr, .int mrowMany, .int mroundOf, .int mroundFrom, .int mouts, .ref nm, .int mfromHour, .int mtoHour, .ref ns, .int mfrom, .int mto, .int msort, .int misFault, .int mdeep, .int mcoded, .int mlines, .ref nl, .ref nc, .ref nF, .ref np, .ref ntr, .ref nb, .int mbestCost, .ref nso, .ref nsi, .ref nit, .ref nsh, .ref nsf, .ref nss, .ref nrc, .int (nI jr15787), .int (nI jd), .int mnumber, .int mwhose, .int msize, .int ip15788])), (nrc, .inl (G.2.1, 30, .inl gtrc5789))] := hD
  obtain ⟨hr5785, w5790⟩ := hr5785
  exact RI (v := r5785) hC hP hD hS [0, 1] (jr15787, ip15788, gtrc5789) rfl rfl (by decide) (⟨trivial, by omega⟩) rfl dX12_bodyFrom_30
set_option maxHeartbeats 4000000 in
set_option maxRecDepth 100000 in
theorem m_dealt1 (l : Launch) (G : GG) (h0 : Nat) (xx : Int32) (nw : Nat) (nk : Nat) (mhasKept : Int32) (nt : Nat) (mtaped : Int32) (nr : Nat) (mrowMany : Int32) (mroundOf : Int32) (mroundFrom : Int32) (mouts : Int32) (nm : Nat) (mfromHour : Int32) (mtoHour : Int32) (ns : Nat) (mfrom : Int32) (mto : Int32) (msort : Int32) (misFault : Int32) (mdeep : Int32) (mcoded : Int32) (mlines : Int32) (nl : Nat) (nc : Nat) (nF : Nat) (np : Nat) (ntr : Nat) (nb : Nat) (mbestCost : Int32) (nso : Nat) (nsi : Nat) (nit : Nat) (nsh : Nat) (nsf : Nat) (nss : Nat) (nrc : Nat) (jr : Nat) (jd : Nat) (mnumber : Int32) (mwhose : Int32) (msize : Int32) (misParted : Int32) (fnrc : Nat → Int32) (hjr : jr ≤ 30) (hjd : jd < 7) : MI l G yX12_dealt cX12_dealt 3 (some .int) 26 0 0 [.ref h0, .int 1, .int xx] [(h0, .inr (12, [.ref nw, .ref nk, .int mhasKept, .ref nt, .int mtaped, .ref nr, .int mrowMany, .int mroundOf, .int mroundFrom, .int mouts, .ref nm, .int mfromHour, .int mtoHour, .ref ns, .int mfrom, .int mto, .int msort, .int misFault, .int mdeep, .int mcoded, .int mlines, .ref nl, .ref nc, .ref nF, .ref np, .ref ntr, .ref nb, .int mbestCost, .ref nso, .ref nsi, .ref nit, .ref nsh, .ref nsf, .ref nss, .ref nrc, .int (nI jr), .int (nI jd), .int mnumber, .int mwhose, .int msize, .int misParted])), (nrc, .inl (G.2.1, 30, .inl fnrc))] (fun (r : Int32) (u : Nat × Int32 × (Nat → Int32)) => (True) ∧ (u.1 ≤ 30)) (fun u : Nat × Int32 × (Nat → Int32) => [(h0, .inr (12, [.ref nw, .ref nk, .int mhasKept, .ref nt, .int mtaped, .ref nr, .int mrowMany, .int mroundOf, .int mroundFrom, .int mouts, .ref nm, .int mfromHour, .int mtoHour, .ref ns, .int mfrom, .int mto, .int msort, .int misFault, .int mdeep, .int mcoded, .int mlines, .ref nl, .ref nc, .ref nF, .ref np, .ref ntr, .ref nb, .int mbestCost, .ref nso, .ref nsi, .ref nit, .ref nsh, .ref nsf, .ref nss, .ref nrc, .int (nI u.1), .int (nI jd), .int mnumber, .int mwhose, .int msize, .int u.2.1])), (nrc, .inl (G.2.1, 30, .inl u.2.2))]) := by
  refine MI.start (by decide +kernel) (Nat.le_of_ble_eq_true rfl) ?_
  intro p e s m below meth c A ls hC hK hP hD hS hA hl
  have hl : lv_has ls 3 [(0, .ref h0), (1, .int 1), (2, .int xx)] := hl
  obtain ⟨hx, hb, hr, hml, hB, hown, hlocks, hnm⟩ := id hC
  refine lv_aload_n hx hb dX12_dealt_0 rfl (lv_at hl 0 rfl) ?_
  refine lv_aload_n hx hb dX12_dealt_1 rfl (lv_at hl 0 rfl) ?_
  refine gf_X12_354 hC rfl hK hP 0 rfl rfl dX12_dealt_2 ?_
  refine lv_iload_n hx hb dX12_dealt_5 rfl (lv_at hl 1 rfl) ?_
  refine lv_iload_n hx hb dX12_dealt_6 rfl (lv_at hl 2 rfl) ?_
  rcases (show jd = 0 ∨ jd = 1 ∨ jd = 2 ∨ jd = 3 ∨ jd = 4 ∨ jd = 5 ∨ jd = 6 by omega) with rfl | rfl | rfl | rfl | rfl | rfl | rfl
  · refine iV (wr := []) hC hK hl hP hD hS hA (m_from01 l G h0 xx nw nk mhasKept nt mtaped nr mrowMany mroundOf mroundFrom mouts nm mfromHour mtoHour ns mfrom mto msort misFault mdeep mcoded mlines nl nc nF np ntr nb mbestCost nso nsi nit nsh nsf nss nrc jr 0 mnumber mwhose msize misParted fnrc (by omega) (by omega)) si_X12_357 [0, 1] [] rfl rfl (by decide) rfl (by decide) (by decide) rfl rfl rfl rfl rfl (Nat.le_of_ble_eq_true rfl) ⟨Nat.le_of_ble_eq_true rfl, Nat.le_of_ble_eq_true rfl⟩ ⟨Nat.le_of_ble_eq_true rfl, Nat.le_of_ble_eq_true rfl⟩ dX12_dealt_7 (fun r5791 u5792 H locs hr5791 hP hD hS => ?_)
    obtain ⟨jr15793, ip15794, gtrc5795⟩ := u5792
    try dsimp only at hr5791
    have hP : va_P G.1 vwCl [(h0, .inr (12, [.ref nw, .ref nk, .int mhasKept, .ref nt, .int mtaped, .ref nr, .int mrowMany, .int mroundOf, .int mroundFrom, .int mouts, .ref nm, .int mfromHour, .int mtoHour, .ref ns, .int mfrom, .int mto, .int msort, .int misFault, .int mdeep, .int mcoded, .int mlines, .ref nl, .ref nc, .ref nF, .ref np, .ref ntr, .ref nb, .int mbestCost, .ref nso, .ref nsi, .ref nit, .ref nsh, .ref nsf, .ref nss, .ref nrc, .int (nI jr15793), .int 0, .int mnumber, .int mwhose, .int msize, .int ip15794])), (nrc, .inl (G.2.1, 30, .inl gtrc5795))] H := hP
    have hD : va_D A [(h0, .inr (12, [.ref nw, .ref nk, .int mhasKept, .ref nt, .int mtaped, .ref nr, .int mrowMany, .int mroundOf, .int mroundFrom, .int mouts, .ref nm, .int mfromHour, .int mtoHour, .ref ns, .int mfrom, .int mto, .int msort, .int misFault, .int mdeep, .int mcoded, .int mlines, .ref nl, .ref nc, .ref nF, .ref np, .ref ntr, .ref nb, .int mbestCost, .ref nso, .ref nsi, .ref nit, .ref nsh, .ref nsf, .ref nss, .ref nrc, .int (nI jr15793), .int 0, .int mnumber, .int mwhose, .int msize, .int ip15794])), (nrc, .inl (G.2.1, 30, .inl gtrc5795))] := hD
    obtain ⟨hr5791, w5796⟩ := hr5791
    exact RI (v := r5791) hC hP hD hS [0, 1] (jr15793, ip15794, gtrc5795) rfl rfl (by decide) (⟨trivial, by omega⟩) rfl dX12_dealt_10
  · refine iV (wr := []) hC hK hl hP hD hS hA (m_from11 l G h0 xx nw nk mhasKept nt mtaped nr mrowMany mroundOf mroundFrom mouts nm mfromHour mtoHour ns mfrom mto msort misFault mdeep mcoded mlines nl nc nF np ntr nb mbestCost nso nsi nit nsh nsf nss nrc jr 1 mnumber mwhose msize misParted fnrc (by omega) (by omega)) si_X12_357 [0, 1] [] rfl rfl (by decide) rfl (by decide) (by decide) rfl rfl rfl rfl rfl (Nat.le_of_ble_eq_true rfl) ⟨Nat.le_of_ble_eq_true rfl, Nat.le_of_ble_eq_true rfl⟩ ⟨Nat.le_of_ble_eq_true rfl, Nat.le_of_ble_eq_true rfl⟩ dX12_dealt_7 (fun r5797 u5798 H locs hr5797 hP hD hS => ?_)
    obtain ⟨jr15799, ip15800, gtrc5801⟩ := u5798
    try dsimp only at hr5797
    have hP : va_P G.1 vwCl [(h0, .inr (12, [.ref nw, .ref nk, .int mhasKept, .ref nt, .int mtaped, .ref nr, .int mrowMany, .int mroundOf, .int mroundFrom, .int mouts, .ref nm, .int mfromHour, .int mtoHour, .ref ns, .int mfrom, .int mto, .int msort, .int misFault, .int mdeep, .int mcoded, .int mlines, .ref nl, .ref nc, .ref nF, .ref np, .ref ntr, .ref nb, .int mbestCost, .ref nso, .ref nsi, .ref nit, .ref nsh, .ref nsf, .ref nss, .ref nrc, .int (nI jr15799), .int 1, .int mnumber, .int mwhose, .int msize, .int ip15800])), (nrc, .inl (G.2.1, 30, .inl gtrc5801))] H := hP
    have hD : va_D A [(h0, .inr (12, [.ref nw, .ref nk, .int mhasKept, .ref nt, .int mtaped, .ref nr, .int mrowMany, .int mroundOf, .int mroundFrom, .int mouts, .ref nm, .int mfromHour, .int mtoHour, .ref ns, .int mfrom, .int mto, .int msort, .int misFault, .int mdeep, .int mcoded, .int mlines, .ref nl, .ref nc, .ref nF, .ref np, .ref ntr, .ref nb, .int mbestCost, .ref nso, .ref nsi, .ref nit, .ref nsh, .ref nsf, .ref nss, .ref nrc, .int (nI jr15799), .int 1, .int mnumber, .int mwhose, .int msize, .int ip15800])), (nrc, .inl (G.2.1, 30, .inl gtrc5801))] := hD
    obtain ⟨hr5797, w5802⟩ := hr5797
    exact RI (v := r5797) hC hP hD hS [0, 1] (jr15799, ip15800, gtrc5801) rfl rfl (by decide) (⟨trivial, by omega⟩) rfl dX12_dealt_10
  · refine iV (wr := []) hC hK hl hP hD hS hA (m_from21 l G h0 xx nw nk mhasKept nt mtaped nr mrowMany mroundOf mroundFrom mouts nm mfromHour mtoHour ns mfrom mto msort misFault mdeep mcoded mlines nl nc nF np ntr nb mbestCost nso nsi nit nsh nsf nss nrc jr 2 mnumber mwhose msize misParted fnrc (by omega) (by omega)) si_X12_357 [0, 1] [] rfl rfl (by decide) rfl (by decide) (by decide) rfl rfl rfl rfl rfl (Nat.le_of_ble_eq_true rfl) ⟨Nat.le_of_ble_eq_true rfl, Nat.le_of_ble_eq_true rfl⟩ ⟨Nat.le_of_ble_eq_true rfl, Nat.le_of_ble_eq_true rfl⟩ dX12_dealt_7 (fun r5803 u5804 H locs hr5803 hP hD hS => ?_)
    obtain ⟨jr15805, ip15806, gtrc5807⟩ := u5804
    try dsimp only at hr5803
    have hP : va_P G.1 vwCl [(h0, .inr (12, [.ref nw, .ref nk, .int mhasKept, .ref nt, .int mtaped, .ref nr, .int mrowMany, .int mroundOf, .int mroundFrom, .int mouts, .ref nm, .int mfromHour, .int mtoHour, .ref ns, .int mfrom, .int mto, .int msort, .int misFault, .int mdeep, .int mcoded, .int mlines, .ref nl, .ref nc, .ref nF, .ref np, .ref ntr, .ref nb, .int mbestCost, .ref nso, .ref nsi, .ref nit, .ref nsh, .ref nsf, .ref nss, .ref nrc, .int (nI jr15805), .int 2, .int mnumber, .int mwhose, .int msize, .int ip15806])), (nrc, .inl (G.2.1, 30, .inl gtrc5807))] H := hP
    have hD : va_D A [(h0, .inr (12, [.ref nw, .ref nk, .int mhasKept, .ref nt, .int mtaped, .ref nr, .int mrowMany, .int mroundOf, .int mroundFrom, .int mouts, .ref nm, .int mfromHour, .int mtoHour, .ref ns, .int mfrom, .int mto, .int msort, .int misFault, .int mdeep, .int mcoded, .int mlines, .ref nl, .ref nc, .ref nF, .ref np, .ref ntr, .ref nb, .int mbestCost, .ref nso, .ref nsi, .ref nit, .ref nsh, .ref nsf, .ref nss, .ref nrc, .int (nI jr15805), .int 2, .int mnumber, .int mwhose, .int msize, .int ip15806])), (nrc, .inl (G.2.1, 30, .inl gtrc5807))] := hD
    obtain ⟨hr5803, w5808⟩ := hr5803
    exact RI (v := r5803) hC hP hD hS [0, 1] (jr15805, ip15806, gtrc5807) rfl rfl (by decide) (⟨trivial, by omega⟩) rfl dX12_dealt_10
  · refine iV (wr := []) hC hK hl hP hD hS hA (m_from31 l G h0 xx nw nk mhasKept nt mtaped nr mrowMany mroundOf mroundFrom mouts nm mfromHour mtoHour ns mfrom mto msort misFault mdeep mcoded mlines nl nc nF np ntr nb mbestCost nso nsi nit nsh nsf nss nrc jr 3 mnumber mwhose msize misParted fnrc (by omega) (by omega)) si_X12_357 [0, 1] [] rfl rfl (by decide) rfl (by decide) (by decide) rfl rfl rfl rfl rfl (Nat.le_of_ble_eq_true rfl) ⟨Nat.le_of_ble_eq_true rfl, Nat.le_of_ble_eq_true rfl⟩ ⟨Nat.le_of_ble_eq_true rfl, Nat.le_of_ble_eq_true rfl⟩ dX12_dealt_7 (fun r5809 u5810 H locs hr5809 hP hD hS => ?_)
    obtain ⟨jr15811, ip15812, gtrc5813⟩ := u5810
    try dsimp only at hr5809
    have hP : va_P G.1 vwCl [(h0, .inr (12, [.ref nw, .ref nk, .int mhasKept, .ref nt, .int mtaped, .ref nr, .int mrowMany, .int mroundOf, .int mroundFrom, .int mouts, .ref nm, .int mfromHour, .int mtoHour, .ref ns, .int mfrom, .int mto, .int msort, .int misFault, .int mdeep, .int mcoded, .int mlines, .ref nl, .ref nc, .ref nF, .ref np, .ref ntr, .ref nb, .int mbestCost, .ref nso, .ref nsi, .ref nit, .ref nsh, .ref nsf, .ref nss, .ref nrc, .int (nI jr15811), .int 3, .int mnumber, .int mwhose, .int msize, .int ip15812])), (nrc, .inl (G.2.1, 30, .inl gtrc5813))] H := hP
    have hD : va_D A [(h0, .inr (12, [.ref nw, .ref nk, .int mhasKept, .ref nt, .int mtaped, .ref nr, .int mrowMany, .int mroundOf, .int mroundFrom, .int mouts, .ref nm, .int mfromHour, .int mtoHour, .ref ns, .int mfrom, .int mto, .int msort, .int misFault, .int mdeep, .int mcoded, .int mlines, .ref nl, .ref nc, .ref nF, .ref np, .ref ntr, .ref nb, .int mbestCost, .ref nso, .ref nsi, .ref nit, .ref nsh, .ref nsf, .ref nss, .ref nrc, .int (nI jr15811), .int 3, .int mnumber, .int mwhose, .int msize, .int ip15812])), (nrc, .inl (G.2.1, 30, .inl gtrc5813))] := hD
    obtain ⟨hr5809, w5814⟩ := hr5809
    exact RI (v := r5809) hC hP hD hS [0, 1] (jr15811, ip15812, gtrc5813) rfl rfl (by decide) (⟨trivial, by omega⟩) rfl dX12_dealt_10
  · refine iV (wr := []) hC hK hl hP hD hS hA (m_from41 l G h0 xx nw nk mhasKept nt mtaped nr mrowMany mroundOf mroundFrom mouts nm mfromHour mtoHour ns mfrom mto msort misFault mdeep mcoded mlines nl nc nF np ntr nb mbestCost nso nsi nit nsh nsf nss nrc jr 4 mnumber mwhose msize misParted fnrc (by omega) (by omega)) si_X12_357 [0, 1] [] rfl rfl (by decide) rfl (by decide) (by decide) rfl rfl rfl rfl rfl (Nat.le_of_ble_eq_true rfl) ⟨Nat.le_of_ble_eq_true rfl, Nat.le_of_ble_eq_true rfl⟩ ⟨Nat.le_of_ble_eq_true rfl, Nat.le_of_ble_eq_true rfl⟩ dX12_dealt_7 (fun r5815 u5816 H locs hr5815 hP hD hS => ?_)
    obtain ⟨jr15817, ip15818, gtrc5819⟩ := u5816
    try dsimp only at hr5815
    have hP : va_P G.1 vwCl [(h0, .inr (12, [.ref nw, .ref nk, .int mhasKept, .ref nt, .int mtaped, .ref nr, .int mrowMany, .int mroundOf, .int mroundFrom, .int mouts, .ref nm, .int mfromHour, .int mtoHour, .ref ns, .int mfrom, .int mto, .int msort, .int misFault, .int mdeep, .int mcoded, .int mlines, .ref nl, .ref nc, .ref nF, .ref np, .ref ntr, .ref nb, .int mbestCost, .ref nso, .ref nsi, .ref nit, .ref nsh, .ref nsf, .ref nss, .ref nrc, .int (nI jr15817), .int 4, .int mnumber, .int mwhose, .int msize, .int ip15818])), (nrc, .inl (G.2.1, 30, .inl gtrc5819))] H := hP
    have hD : va_D A [(h0, .inr (12, [.ref nw, .ref nk, .int mhasKept, .ref nt, .int mtaped, .ref nr, .int mrowMany, .int mroundOf, .int mroundFrom, .int mouts, .ref nm, .int mfromHour, .int mtoHour, .ref ns, .int mfrom, .int mto, .int msort, .int misFault, .int mdeep, .int mcoded, .int mlines, .ref nl, .ref nc, .ref nF, .ref np, .ref ntr, .ref nb, .int mbestCost, .ref nso, .ref nsi, .ref nit, .ref nsh, .ref nsf, .ref nss, .ref nrc, .int (nI jr15817), .int 4, .int mnumber, .int mwhose, .int msize, .int ip15818])), (nrc, .inl (G.2.1, 30, .inl gtrc5819))] := hD
    obtain ⟨hr5815, w5820⟩ := hr5815
    exact RI (v := r5815) hC hP hD hS [0, 1] (jr15817, ip15818, gtrc5819) rfl rfl (by decide) (⟨trivial, by omega⟩) rfl dX12_dealt_10
  · refine iV (wr := []) hC hK hl hP hD hS hA (m_from51 l G h0 xx nw nk mhasKept nt mtaped nr mrowMany mroundOf mroundFrom mouts nm mfromHour mtoHour ns mfrom mto msort misFault mdeep mcoded mlines nl nc nF np ntr nb mbestCost nso nsi nit nsh nsf nss nrc jr 5 mnumber mwhose msize misParted fnrc (by omega) (by omega)) si_X12_357 [0, 1] [] rfl rfl (by decide) rfl (by decide) (by decide) rfl rfl rfl rfl rfl (Nat.le_of_ble_eq_true rfl) ⟨Nat.le_of_ble_eq_true rfl, Nat.le_of_ble_eq_true rfl⟩ ⟨Nat.le_of_ble_eq_true rfl, Nat.le_of_ble_eq_true rfl⟩ dX12_dealt_7 (fun r5821 u5822 H locs hr5821 hP hD hS => ?_)
    obtain ⟨jr15823, ip15824, gtrc5825⟩ := u5822
    try dsimp only at hr5821
    have hP : va_P G.1 vwCl [(h0, .inr (12, [.ref nw, .ref nk, .int mhasKept, .ref nt, .int mtaped, .ref nr, .int mrowMany, .int mroundOf, .int mroundFrom, .int mouts, .ref nm, .int mfromHour, .int mtoHour, .ref ns, .int mfrom, .int mto, .int msort, .int misFault, .int mdeep, .int mcoded, .int mlines, .ref nl, .ref nc, .ref nF, .ref np, .ref ntr, .ref nb, .int mbestCost, .ref nso, .ref nsi, .ref nit, .ref nsh, .ref nsf, .ref nss, .ref nrc, .int (nI jr15823), .int 5, .int mnumber, .int mwhose, .int msize, .int ip15824])), (nrc, .inl (G.2.1, 30, .inl gtrc5825))] H := hP
    have hD : va_D A [(h0, .inr (12, [.ref nw, .ref nk, .int mhasKept, .ref nt, .int mtaped, .ref nr, .int mrowMany, .int mroundOf, .int mroundFrom, .int mouts, .ref nm, .int mfromHour, .int mtoHour, .ref ns, .int mfrom, .int mto, .int msort, .int misFault, .int mdeep, .int mcoded, .int mlines, .ref nl, .ref nc, .ref nF, .ref np, .ref ntr, .ref nb, .int mbestCost, .ref nso, .ref nsi, .ref nit, .ref nsh, .ref nsf, .ref nss, .ref nrc, .int (nI jr15823), .int 5, .int mnumber, .int mwhose, .int msize, .int ip15824])), (nrc, .inl (G.2.1, 30, .inl gtrc5825))] := hD
    obtain ⟨hr5821, w5826⟩ := hr5821
    exact RI (v := r5821) hC hP hD hS [0, 1] (jr15823, ip15824, gtrc5825) rfl rfl (by decide) (⟨trivial, by omega⟩) rfl dX12_dealt_10
  · refine iV (wr := []) hC hK hl hP hD hS hA (m_from61 l G h0 xx nw nk mhasKept nt mtaped nr mrowMany mroundOf mroundFrom mouts nm mfromHour mtoHour ns mfrom mto msort misFault mdeep mcoded mlines nl nc nF np ntr nb mbestCost nso nsi nit nsh nsf nss nrc jr 6 mnumber mwhose msize misParted fnrc (by omega) (by omega)) si_X12_357 [0, 1] [] rfl rfl (by decide) rfl (by decide) (by decide) rfl rfl rfl rfl rfl (Nat.le_of_ble_eq_true rfl) ⟨Nat.le_of_ble_eq_true rfl, Nat.le_of_ble_eq_true rfl⟩ ⟨Nat.le_of_ble_eq_true rfl, Nat.le_of_ble_eq_true rfl⟩ dX12_dealt_7 (fun r5827 u5828 H locs hr5827 hP hD hS => ?_)
    obtain ⟨jr15829, ip15830, gtrc5831⟩ := u5828
    try dsimp only at hr5827
    have hP : va_P G.1 vwCl [(h0, .inr (12, [.ref nw, .ref nk, .int mhasKept, .ref nt, .int mtaped, .ref nr, .int mrowMany, .int mroundOf, .int mroundFrom, .int mouts, .ref nm, .int mfromHour, .int mtoHour, .ref ns, .int mfrom, .int mto, .int msort, .int misFault, .int mdeep, .int mcoded, .int mlines, .ref nl, .ref nc, .ref nF, .ref np, .ref ntr, .ref nb, .int mbestCost, .ref nso, .ref nsi, .ref nit, .ref nsh, .ref nsf, .ref nss, .ref nrc, .int (nI jr15829), .int 6, .int mnumber, .int mwhose, .int msize, .int ip15830])), (nrc, .inl (G.2.1, 30, .inl gtrc5831))] H := hP
    have hD : va_D A [(h0, .inr (12, [.ref nw, .ref nk, .int mhasKept, .ref nt, .int mtaped, .ref nr, .int mrowMany, .int mroundOf, .int mroundFrom, .int mouts, .ref nm, .int mfromHour, .int mtoHour, .ref ns, .int mfrom, .int mto, .int msort, .int misFault, .int mdeep, .int mcoded, .int mlines, .ref nl, .ref nc, .ref nF, .ref np, .ref ntr, .ref nb, .int mbestCost, .ref nso, .ref nsi, .ref nit, .ref nsh, .ref nsf, .ref nss, .ref nrc, .int (nI jr15829), .int 6, .int mnumber, .int mwhose, .int msize, .int ip15830])), (nrc, .inl (G.2.1, 30, .inl gtrc5831))] := hD
    obtain ⟨hr5827, w5832⟩ := hr5827
    exact RI (v := r5827) hC hP hD hS [0, 1] (jr15829, ip15830, gtrc5831) rfl rfl (by decide) (⟨trivial, by omega⟩) rfl dX12_dealt_10
set_option maxHeartbeats 4000000 in
set_option maxRecDepth 100000 in
theorem m_body02 (l : Launch) (G : GG) (h0 : Nat) (xx : Int32) (nw : Nat) (nk : Nat) (mhasKept : Int32) (nt : Nat) (mtaped : Int32) (nr : Nat) (mrowMany : Int32) (mroundOf : Int32) (mroundFrom : Int32) (mouts : Int32) (nm : Nat) (mfromHour : Int32) (mtoHour : Int32) (ns : Nat) (mfrom : Int32) (mto : Int32) (msort : Int32) (misFault : Int32) (mdeep : Int32) (mcoded : Int32) (mlines : Int32) (nl : Nat) (nc : Nat) (nF : Nat) (np : Nat) (ntr : Nat) (nb : Nat) (mbestCost : Int32) (nso : Nat) (nsi : Nat) (nit : Nat) (nsh : Nat) (nsf : Nat) (nss : Nat) (nrc : Nat) (jr : Nat) (jd : Nat) (mnumber : Int32) (mwhose : Int32) (msize : Int32) (misParted : Int32) (fnrc : Nat → Int32) (hjr : jr ≤ 30) (hjd : jd < 7) : MI l G yX12_body cX12_body 6 (some .int) 27 0 0 [.ref h0, .int 0, .int 2, .int xx] [(h0, .inr (12, [.ref nw, .ref nk, .int mhasKept, .ref nt, .int mtaped, .ref nr, .int mrowMany, .int mroundOf, .int mroundFrom, .int mouts, .ref nm, .int mfromHour, .int mtoHour, .ref ns, .int mfrom, .int mto, .int msort, .int misFault, .int mdeep, .int mcoded, .int mlines, .ref nl, .ref nc, .ref nF, .ref np, .ref ntr, .ref nb, .int mbestCost, .ref nso, .ref nsi, .ref nit, .ref nsh, .ref nsf, .ref nss, .ref nrc, .int (nI jr), .int (nI jd), .int mnumber, .int mwhose, .int msize, .int misParted])), (nrc, .inl (G.2.1, 30, .inl fnrc))] (fun (r : Int32) (u : Nat × Int32 × (Nat → Int32)) => (True) ∧ (u.1 ≤ 30)) (fun u : Nat × Int32 × (Nat → Int32) => [(h0, .inr (12, [.ref nw, .ref nk, .int mhasKept, .ref nt, .int mtaped, .ref nr, .int mrowMany, .int mroundOf, .int mroundFrom, .int mouts, .ref nm, .int mfromHour, .int mtoHour, .ref ns, .int mfrom, .int mto, .int msort, .int misFault, .int mdeep, .int mcoded, .int mlines, .ref nl, .ref nc, .ref nF, .ref np, .ref ntr, .ref nb, .int mbestCost, .ref nso, .ref nsi, .ref nit, .ref nsh, .ref nsf, .ref nss, .ref nrc, .int (nI u.1), .int (nI jd), .int mnumber, .int mwhose, .int msize, .int u.2.1])), (nrc, .inl (G.2.1, 30, .inl u.2.2))]) := by
  refine MI.start (by decide +kernel) (Nat.le_of_ble_eq_true rfl) ?_
  intro p e s m below meth c A ls hC hK hP hD hS hA hl
  have hl : lv_has ls 6 [(0, .ref h0), (1, .int 0), (2, .int 2), (3, .int xx)] := hl
  obtain ⟨hx, hb, hr, hml, hB, hown, hlocks, hnm⟩ := id hC
  refine lv_iconst (v := 4) hx hb dX12_body_0 (by decide) ?_
  refine lv_iload_n hx hb dX12_body_1 rfl (lv_at hl 1 rfl) ?_
  refine lv_imul hx hb dX12_body_2 ?_
  refine eqi (x1 := 0) (by decide) ?_
  refine lv_iload_n hx hb dX12_body_3 rfl (lv_at hl 2 rfl) ?_
  refine lv_iadd hx hb dX12_body_4 ?_
  refine eqi (x1 := 2) (by decide) ?_
  refine lv_tableIn (tgt := 140) hx hb dX12_body_5 (by decide) (by decide) rfl (by decide) ?_
  refine lv_aload_n hx hb dX12_body_140 rfl (lv_at hl 0 rfl) ?_
  refine lv_bipush (v := 12) hx hb dX12_body_141 (by decide) ?_
  refine vV (wr := []) hC hK hl hP hD hS hA (m_began l G h0 12 nw nk mhasKept nt mtaped nr mrowMany mroundOf mroundFrom mouts nm mfromHour mtoHour ns mfrom mto msort misFault mdeep mcoded mlines nl nc nF np ntr nb mbestCost nso nsi nit nsh nsf nss nrc jr (nI jd) mnumber mwhose msize misParted fnrc (by omega)) si_X12_366 [0, 1] [] rfl rfl (by decide) rfl (by decide) (by decide) rfl rfl rfl rfl rfl (Nat.le_of_ble_eq_true rfl) ⟨Nat.le_of_ble_eq_true rfl, Nat.le_of_ble_eq_true rfl⟩ ⟨Nat.le_of_ble_eq_true rfl, Nat.le_of_ble_eq_true rfl⟩ dX12_body_143 (fun u5834 H locs hr5833 hP hD hS => ?_)
  obtain ⟨jr15835, gtrc5836⟩ := u5834
  try dsimp only at hr5833
  have hP : va_P G.1 vwCl [(h0, .inr (12, [.ref nw, .ref nk, .int mhasKept, .ref nt, .int mtaped, .ref nr, .int mrowMany, .int mroundOf, .int mroundFrom, .int mouts, .ref nm, .int mfromHour, .int mtoHour, .ref ns, .int mfrom, .int mto, .int msort, .int misFault, .int mdeep, .int mcoded, .int mlines, .ref nl, .ref nc, .ref nF, .ref np, .ref ntr, .ref nb, .int mbestCost, .ref nso, .ref nsi, .ref nit, .ref nsh, .ref nsf, .ref nss, .ref nrc, .int (nI jr15835), .int (nI jd), .int mnumber, .int mwhose, .int msize, .int misParted])), (nrc, .inl (G.2.1, 30, .inl gtrc5836))] H := hP
  have hD : va_D A [(h0, .inr (12, [.ref nw, .ref nk, .int mhasKept, .ref nt, .int mtaped, .ref nr, .int mrowMany, .int mroundOf, .int mroundFrom, .int mouts, .ref nm, .int mfromHour, .int mtoHour, .ref ns, .int mfrom, .int mto, .int msort, .int misFault, .int mdeep, .int mcoded, .int mlines, .ref nl, .ref nc, .ref nF, .ref np, .ref ntr, .ref nb, .int mbestCost, .ref nso, .ref nsi, .ref nit, .ref nsh, .ref nsf, .ref nss, .ref nrc, .int (nI jr15835), .int (nI jd), .int mnumber, .int mwhose, .int msize, .int misParted])), (nrc, .inl (G.2.1, 30, .inl gtrc5836))] := hD
  have w5837 := hr5833
  refine lv_aload_n hx hb dX12_body_146 rfl (lv_at hl 0 rfl) ?_
  refine lv_iconst (v := 1) hx hb dX12_body_147 (by decide) ?_
  refine lv_iload_n hx hb dX12_body_148 rfl (lv_at hl 3 rfl) ?_
  refine iV (wr := []) hC hK hl hP hD hS hA (m_dealt1 l G h0 xx nw nk mhasKept nt mtaped nr mrowMany mroundOf mroundFrom mouts nm mfromHour mtoHour ns mfrom mto msort misFault mdeep mcoded mlines nl nc nF np ntr nb mbestCost nso nsi nit nsh nsf nss nrc jr15835 jd mnumber mwhose msize misParted gtrc5836 (by omega) (by omega)) si_X12_372 [0, 1] [] rfl rfl (by decide) rfl (by decide) (by decide) rfl rfl rfl rfl rfl (Nat.le_of_ble_eq_true rfl) ⟨Nat.le_of_ble_eq_true rfl, Nat.le_of_ble_eq_true rfl⟩ ⟨Nat.le_of_ble_eq_true rfl, Nat.le_of_ble_eq_true rfl⟩ dX12_body_149 (fun r5838 u5839 H locs hr5838 hP hD hS => ?_)
  obtain ⟨jr15840, ip15841, gtrc5842⟩ := u5839
  try dsimp only at hr5838
  have hP : va_P G.1 vwCl [(h0, .inr (12, [.ref nw, .ref nk, .int mhasKept, .ref nt, .int mtaped, .ref nr, .int mrowMany, .int mroundOf, .int mroundFrom, .int mouts, .ref nm, .int mfromHour, .int mtoHour, .ref ns, .int mfrom, .int mto, .int msort, .int misFault, .int mdeep, .int mcoded, .int mlines, .ref nl, .ref nc, .ref nF, .ref np, .ref ntr, .ref nb, .int mbestCost, .ref nso, .ref nsi, .ref nit, .ref nsh, .ref nsf, .ref nss, .ref nrc, .int (nI jr15840), .int (nI jd), .int mnumber, .int mwhose, .int msize, .int ip15841])), (nrc, .inl (G.2.1, 30, .inl gtrc5842))] H := hP
  have hD : va_D A [(h0, .inr (12, [.ref nw, .ref nk, .int mhasKept, .ref nt, .int mtaped, .ref nr, .int mrowMany, .int mroundOf, .int mroundFrom, .int mouts, .ref nm, .int mfromHour, .int mtoHour, .ref ns, .int mfrom, .int mto, .int msort, .int misFault, .int mdeep, .int mcoded, .int mlines, .ref nl, .ref nc, .ref nF, .ref np, .ref ntr, .ref nb, .int mbestCost, .ref nso, .ref nsi, .ref nit, .ref nsh, .ref nsf, .ref nss, .ref nrc, .int (nI jr15840), .int (nI jd), .int mnumber, .int mwhose, .int msize, .int ip15841])), (nrc, .inl (G.2.1, 30, .inl gtrc5842))] := hD
  obtain ⟨hr5838, w5843⟩ := hr5838
  refine lv_aload_n hx hb dX12_body_152 rfl (lv_at hl 0 rfl) ?_
  refine gf_X12_375 hC rfl hK hP 0 rfl rfl dX12_body_153 ?_
  refine lv_isub hx hb dX12_body_156 ?_
  exact RI (v := r5838 - mwhose) hC hP hD hS [0, 1] (jr15840, ip15841, gtrc5842) rfl rfl (by decide) (⟨trivial, by omega⟩) rfl dX12_body_157
set_option maxHeartbeats 4000000 in
set_option maxRecDepth 100000 in
theorem m_from02 (l : Launch) (G : GG) (h0 : Nat) (xx : Int32) (nw : Nat) (nk : Nat) (mhasKept : Int32) (nt : Nat) (mtaped : Int32) (nr : Nat) (mrowMany : Int32) (mroundOf : Int32) (mroundFrom : Int32) (mouts : Int32) (nm : Nat) (mfromHour : Int32) (mtoHour : Int32) (ns : Nat) (mfrom : Int32) (mto : Int32) (msort : Int32) (misFault : Int32) (mdeep : Int32) (mcoded : Int32) (mlines : Int32) (nl : Nat) (nc : Nat) (nF : Nat) (np : Nat) (ntr : Nat) (nb : Nat) (mbestCost : Int32) (nso : Nat) (nsi : Nat) (nit : Nat) (nsh : Nat) (nsf : Nat) (nss : Nat) (nrc : Nat) (jr : Nat) (jd : Nat) (mnumber : Int32) (mwhose : Int32) (msize : Int32) (misParted : Int32) (fnrc : Nat → Int32) (hjr : jr ≤ 30) (hjd : jd < 7) : MI l G yX12_bodyFrom cX12_bodyFrom 5 (some .int) 28 0 0 [.ref h0, .int 0, .int 2, .int xx] [(h0, .inr (12, [.ref nw, .ref nk, .int mhasKept, .ref nt, .int mtaped, .ref nr, .int mrowMany, .int mroundOf, .int mroundFrom, .int mouts, .ref nm, .int mfromHour, .int mtoHour, .ref ns, .int mfrom, .int mto, .int msort, .int misFault, .int mdeep, .int mcoded, .int mlines, .ref nl, .ref nc, .ref nF, .ref np, .ref ntr, .ref nb, .int mbestCost, .ref nso, .ref nsi, .ref nit, .ref nsh, .ref nsf, .ref nss, .ref nrc, .int (nI jr), .int (nI jd), .int mnumber, .int mwhose, .int msize, .int misParted])), (nrc, .inl (G.2.1, 30, .inl fnrc))] (fun (r : Int32) (u : Nat × Int32 × (Nat → Int32)) => (True) ∧ (u.1 ≤ 30)) (fun u : Nat × Int32 × (Nat → Int32) => [(h0, .inr (12, [.ref nw, .ref nk, .int mhasKept, .ref nt, .int mtaped, .ref nr, .int mrowMany, .int mroundOf, .int mroundFrom, .int mouts, .ref nm, .int mfromHour, .int mtoHour, .ref ns, .int mfrom, .int mto, .int msort, .int misFault, .int mdeep, .int mcoded, .int mlines, .ref nl, .ref nc, .ref nF, .ref np, .ref ntr, .ref nb, .int mbestCost, .ref nso, .ref nsi, .ref nit, .ref nsh, .ref nsf, .ref nss, .ref nrc, .int (nI u.1), .int (nI jd), .int mnumber, .int mwhose, .int msize, .int u.2.1])), (nrc, .inl (G.2.1, 30, .inl u.2.2))]) := by
  refine MI.start (by decide +kernel) (Nat.le_of_ble_eq_true rfl) ?_
  intro p e s m below meth c A ls hC hK hP hD hS hA hl
  have hl : lv_has ls 5 [(0, .ref h0), (1, .int 0), (2, .int 2), (3, .int xx)] := hl
  obtain ⟨hx, hb, hr, hml, hB, hown, hlocks, hnm⟩ := id hC
  refine lv_iload_n hx hb dX12_bodyFrom_0 rfl (lv_at hl 1 rfl) ?_
  refine lv_istore (lv' := [(4, .int 0), (0, .ref h0), (1, .int 0), (2, .int 2), (3, .int xx)]) hx hb dX12_bodyFrom_1 hl (by decide) rfl (fun ls hl => ?_)
  refine lv_iload hx hb dX12_bodyFrom_3 (lv_at hl 0 rfl) ?_
  refine lv_iload_n hx hb dX12_bodyFrom_5 rfl (lv_at hl 3 rfl) ?_
  refine pS hC hK hl (m_hasOwn02 l G) si_X12_360 rfl rfl (Nat.le_of_ble_eq_true rfl) ⟨Nat.le_of_ble_eq_true rfl, Nat.le_of_ble_eq_true rfl⟩ ⟨by first | exact Nat.le_of_ble_eq_true rfl | exact Nat.zero_le _, by first | exact Nat.le_of_ble_eq_true rfl | exact Nat.zero_le _⟩ dX12_bodyFrom_6 (fun r5844 hr5844 => ?_)
  obtain rfl := hr5844
  refine lv_if_ne (tgt := 22) hx hb dX12_bodyFrom_9 (by decide) (fun _ => ?_) (fun c9 => absurd c9 (by decide))
  refine lv_aload_n hx hb dX12_bodyFrom_22 rfl (lv_at hl 1 rfl) ?_
  refine lv_iload hx hb dX12_bodyFrom_23 (lv_at hl 0 rfl) ?_
  refine lv_iload_n hx hb dX12_bodyFrom_25 rfl (lv_at hl 3 rfl) ?_
  refine lv_iload_n hx hb dX12_bodyFrom_26 rfl (lv_at hl 4 rfl) ?_
  refine iV (wr := []) hC hK hl hP hD hS hA (m_body02 l G h0 xx nw nk mhasKept nt mtaped nr mrowMany mroundOf mroundFrom mouts nm mfromHour mtoHour ns mfrom mto msort misFault mdeep mcoded mlines nl nc nF np ntr nb mbestCost nso nsi nit nsh nsf nss nrc jr jd mnumber mwhose msize misParted fnrc (by omega) (by omega)) si_X12_363 [0, 1] [] rfl rfl (by decide) rfl (by decide) (by decide) rfl rfl rfl rfl rfl (Nat.le_of_ble_eq_true rfl) ⟨Nat.le_of_ble_eq_true rfl, Nat.le_of_ble_eq_true rfl⟩ ⟨Nat.le_of_ble_eq_true rfl, Nat.le_of_ble_eq_true rfl⟩ dX12_bodyFrom_27 (fun r5846 u5847 H locs hr5846 hP hD hS => ?_)
  obtain ⟨jr15848, ip15849, gtrc5850⟩ := u5847
  try dsimp only at hr5846
  have hP : va_P G.1 vwCl [(h0, .inr (12, [.ref nw, .ref nk, .int mhasKept, .ref nt, .int mtaped, .ref nr, .int mrowMany, .int mroundOf, .int mroundFrom, .int mouts, .ref nm, .int mfromHour, .int mtoHour, .ref ns, .int mfrom, .int mto, .int msort, .int misFault, .int mdeep, .int mcoded, .int mlines, .ref nl, .ref nc, .ref nF, .ref np, .ref ntr, .ref nb, .int mbestCost, .ref nso, .ref nsi, .ref nit, .ref nsh, .ref nsf, .ref nss, .ref nrc, .int (nI jr15848), .int (nI jd), .int mnumber, .int mwhose, .int msize, .int ip15849])), (nrc, .inl (G.2.1, 30, .inl gtrc5850))] H := hP
  have hD : va_D A [(h0, .inr (12, [.ref nw, .ref nk, .int mhasKept, .ref nt, .int mtaped, .ref nr, .int mrowMany, .int mroundOf, .int mroundFrom, .int mouts, .ref nm, .int mfromHour, .int mtoHour, .ref ns, .int mfrom, .int mto, .int msort, .int misFault, .int mdeep, .int mcoded, .int mlines, .ref nl, .ref nc, .ref nF, .ref np, .ref ntr, .ref nb, .int mbestCost, .ref nso, .ref nsi, .ref nit, .ref nsh, .ref nsf, .ref nss, .ref nrc, .int (nI jr15848), .int (nI jd), .int mnumber, .int mwhose, .int msize, .int ip15849])), (nrc, .inl (G.2.1, 30, .inl gtrc5850))] := hD
  obtain ⟨hr5846, w5851⟩ := hr5846
  exact RI (v := r5846) hC hP hD hS [0, 1] (jr15848, ip15849, gtrc5850) rfl rfl (by decide) (⟨trivial, by omega⟩) rfl dX12_bodyFrom_30
set_option maxHeartbeats 4000000 in
set_option maxRecDepth 100000 in
theorem m_body22 (l : Launch) (G : GG) (h0 : Nat) (xx : Int32) (nw : Nat) (nk : Nat) (mhasKept : Int32) (nt : Nat) (mtaped : Int32) (nr : Nat) (mrowMany : Int32) (mroundOf : Int32) (mroundFrom : Int32) (mouts : Int32) (nm : Nat) (mfromHour : Int32) (mtoHour : Int32) (ns : Nat) (mfrom : Int32) (mto : Int32) (msort : Int32) (misFault : Int32) (mdeep : Int32) (mcoded : Int32) (mlines : Int32) (nl : Nat) (nc : Nat) (nF : Nat) (np : Nat) (ntr : Nat) (nb : Nat) (mbestCost : Int32) (nso : Nat) (nsi : Nat) (nit : Nat) (nsh : Nat) (nsf : Nat) (nss : Nat) (nrc : Nat) (jr : Nat) (jd : Nat) (mnumber : Int32) (mwhose : Int32) (msize : Int32) (misParted : Int32) (fnrc : Nat → Int32) (hjr : jr ≤ 30) (hjd : jd < 7) : MI l G yX12_body cX12_body 6 (some .int) 29 0 0 [.ref h0, .int 2, .int 2, .int xx] [(h0, .inr (12, [.ref nw, .ref nk, .int mhasKept, .ref nt, .int mtaped, .ref nr, .int mrowMany, .int mroundOf, .int mroundFrom, .int mouts, .ref nm, .int mfromHour, .int mtoHour, .ref ns, .int mfrom, .int mto, .int msort, .int misFault, .int mdeep, .int mcoded, .int mlines, .ref nl, .ref nc, .ref nF, .ref np, .ref ntr, .ref nb, .int mbestCost, .ref nso, .ref nsi, .ref nit, .ref nsh, .ref nsf, .ref nss, .ref nrc, .int (nI jr), .int (nI jd), .int mnumber, .int mwhose, .int msize, .int misParted])), (nrc, .inl (G.2.1, 30, .inl fnrc))] (fun (r : Int32) (u : Nat × Int32 × (Nat → Int32)) => (True) ∧ (u.1 ≤ 30)) (fun u : Nat × Int32 × (Nat → Int32) => [(h0, .inr (12, [.ref nw, .ref nk, .int mhasKept, .ref nt, .int mtaped, .ref nr, .int mrowMany, .int mroundOf, .int mroundFrom, .int mouts, .ref nm, .int mfromHour, .int mtoHour, .ref ns, .int mfrom, .int mto, .int msort, .int misFault, .int mdeep, .int mcoded, .int mlines, .ref nl, .ref nc, .ref nF, .ref np, .ref ntr, .ref nb, .int mbestCost, .ref nso, .ref nsi, .ref nit, .ref nsh, .ref nsf, .ref nss, .ref nrc, .int (nI u.1), .int (nI jd), .int mnumber, .int mwhose, .int msize, .int u.2.1])), (nrc, .inl (G.2.1, 30, .inl u.2.2))]) := by
  refine MI.start (by decide +kernel) (Nat.le_of_ble_eq_true rfl) ?_
  intro p e s m below meth c A ls hC hK hP hD hS hA hl
  have hl : lv_has ls 6 [(0, .ref h0), (1, .int 2), (2, .int 2), (3, .int xx)] := hl
  obtain ⟨hx, hb, hr, hml, hB, hown, hlocks, hnm⟩ := id hC
  refine lv_iconst (v := 4) hx hb dX12_body_0 (by decide) ?_
  refine lv_iload_n hx hb dX12_body_1 rfl (lv_at hl 1 rfl) ?_
  refine lv_imul hx hb dX12_body_2 ?_
  refine eqi (x1 := 8) (by decide) ?_
  refine lv_iload_n hx hb dX12_body_3 rfl (lv_at hl 2 rfl) ?_
  refine lv_iadd hx hb dX12_body_4 ?_
  refine eqi (x1 := 10) (by decide) ?_
  refine lv_tableIn (tgt := 226) hx hb dX12_body_5 (by decide) (by decide) rfl (by decide) ?_
  refine lv_aload_n hx hb dX12_body_226 rfl (lv_at hl 0 rfl) ?_
  refine lv_bipush (v := 30) hx hb dX12_body_227 (by decide) ?_
  refine vV (wr := []) hC hK hl hP hD hS hA (m_began l G h0 30 nw nk mhasKept nt mtaped nr mrowMany mroundOf mroundFrom mouts nm mfromHour mtoHour ns mfrom mto msort misFault mdeep mcoded mlines nl nc nF np ntr nb mbestCost nso nsi nit nsh nsf nss nrc jr (nI jd) mnumber mwhose msize misParted fnrc (by omega)) si_X12_366 [0, 1] [] rfl rfl (by decide) rfl (by decide) (by decide) rfl rfl rfl rfl rfl (Nat.le_of_ble_eq_true rfl) ⟨Nat.le_of_ble_eq_true rfl, Nat.le_of_ble_eq_true rfl⟩ ⟨Nat.le_of_ble_eq_true rfl, Nat.le_of_ble_eq_true rfl⟩ dX12_body_229 (fun u5853 H locs hr5852 hP hD hS => ?_)
  obtain ⟨jr15854, gtrc5855⟩ := u5853
  try dsimp only at hr5852
  have hP : va_P G.1 vwCl [(h0, .inr (12, [.ref nw, .ref nk, .int mhasKept, .ref nt, .int mtaped, .ref nr, .int mrowMany, .int mroundOf, .int mroundFrom, .int mouts, .ref nm, .int mfromHour, .int mtoHour, .ref ns, .int mfrom, .int mto, .int msort, .int misFault, .int mdeep, .int mcoded, .int mlines, .ref nl, .ref nc, .ref nF, .ref np, .ref ntr, .ref nb, .int mbestCost, .ref nso, .ref nsi, .ref nit, .ref nsh, .ref nsf, .ref nss, .ref nrc, .int (nI jr15854), .int (nI jd), .int mnumber, .int mwhose, .int msize, .int misParted])), (nrc, .inl (G.2.1, 30, .inl gtrc5855))] H := hP
  have hD : va_D A [(h0, .inr (12, [.ref nw, .ref nk, .int mhasKept, .ref nt, .int mtaped, .ref nr, .int mrowMany, .int mroundOf, .int mroundFrom, .int mouts, .ref nm, .int mfromHour, .int mtoHour, .ref ns, .int mfrom, .int mto, .int msort, .int misFault, .int mdeep, .int mcoded, .int mlines, .ref nl, .ref nc, .ref nF, .ref np, .ref ntr, .ref nb, .int mbestCost, .ref nso, .ref nsi, .ref nit, .ref nsh, .ref nsf, .ref nss, .ref nrc, .int (nI jr15854), .int (nI jd), .int mnumber, .int mwhose, .int msize, .int misParted])), (nrc, .inl (G.2.1, 30, .inl gtrc5855))] := hD
  have w5856 := hr5852
  refine lv_aload_n hx hb dX12_body_232 rfl (lv_at hl 0 rfl) ?_
  refine lv_iconst (v := 0) hx hb dX12_body_233 (by decide) ?_
  refine lv_iconst (v := 2) hx hb dX12_body_234 (by decide) ?_
  refine lv_iload_n hx hb dX12_body_235 rfl (lv_at hl 3 rfl) ?_
  refine iV (wr := []) hC hK hl hP hD hS hA (m_from02 l G h0 xx nw nk mhasKept nt mtaped nr mrowMany mroundOf mroundFrom mouts nm mfromHour mtoHour ns mfrom mto msort misFault mdeep mcoded mlines nl nc nF np ntr nb mbestCost nso nsi nit nsh nsf nss nrc jr15854 jd mnumber mwhose msize misParted gtrc5855 (by omega) (by omega)) si_X12_357 [0, 1] [] rfl rfl (by decide) rfl (by decide) (by decide) rfl rfl rfl rfl rfl (Nat.le_of_ble_eq_true rfl) ⟨Nat.le_of_ble_eq_true rfl, Nat.le_of_ble_eq_true rfl⟩ ⟨Nat.le_of_ble_eq_true rfl, Nat.le_of_ble_eq_true rfl⟩ dX12_body_236 (fun r5857 u5858 H locs hr5857 hP hD hS => ?_)
  obtain ⟨jr15859, ip15860, gtrc5861⟩ := u5858
  try dsimp only at hr5857
  have hP : va_P G.1 vwCl [(h0, .inr (12, [.ref nw, .ref nk, .int mhasKept, .ref nt, .int mtaped, .ref nr, .int mrowMany, .int mroundOf, .int mroundFrom, .int mouts, .ref nm, .int mfromHour, .int mtoHour, .ref ns, .int mfrom, .int mto, .int msort, .int misFault, .int mdeep, .int mcoded, .int mlines, .ref nl, .ref nc, .ref nF, .ref np, .ref ntr, .ref nb, .int mbestCost, .ref nso, .ref nsi, .ref nit, .ref nsh, .ref nsf, .ref nss, .ref nrc, .int (nI jr15859), .int (nI jd), .int mnumber, .int mwhose, .int msize, .int ip15860])), (nrc, .inl (G.2.1, 30, .inl gtrc5861))] H := hP
  have hD : va_D A [(h0, .inr (12, [.ref nw, .ref nk, .int mhasKept, .ref nt, .int mtaped, .ref nr, .int mrowMany, .int mroundOf, .int mroundFrom, .int mouts, .ref nm, .int mfromHour, .int mtoHour, .ref ns, .int mfrom, .int mto, .int msort, .int misFault, .int mdeep, .int mcoded, .int mlines, .ref nl, .ref nc, .ref nF, .ref np, .ref ntr, .ref nb, .int mbestCost, .ref nso, .ref nsi, .ref nit, .ref nsh, .ref nsf, .ref nss, .ref nrc, .int (nI jr15859), .int (nI jd), .int mnumber, .int mwhose, .int msize, .int ip15860])), (nrc, .inl (G.2.1, 30, .inl gtrc5861))] := hD
  obtain ⟨hr5857, w5862⟩ := hr5857
  refine lv_iconst (v := 3) hx hb dX12_body_239 (by decide) ?_
  refine lv_imul hx hb dX12_body_240 ?_
  exact RI (v := r5857 * 3) hC hP hD hS [0, 1] (jr15859, ip15860, gtrc5861) rfl rfl (by decide) (⟨trivial, by omega⟩) rfl dX12_body_241
set_option maxHeartbeats 4000000 in
set_option maxRecDepth 100000 in
theorem m_from22 (l : Launch) (G : GG) (h0 : Nat) (xx : Int32) (nw : Nat) (nk : Nat) (mhasKept : Int32) (nt : Nat) (mtaped : Int32) (nr : Nat) (mrowMany : Int32) (mroundOf : Int32) (mroundFrom : Int32) (mouts : Int32) (nm : Nat) (mfromHour : Int32) (mtoHour : Int32) (ns : Nat) (mfrom : Int32) (mto : Int32) (msort : Int32) (misFault : Int32) (mdeep : Int32) (mcoded : Int32) (mlines : Int32) (nl : Nat) (nc : Nat) (nF : Nat) (np : Nat) (ntr : Nat) (nb : Nat) (mbestCost : Int32) (nso : Nat) (nsi : Nat) (nit : Nat) (nsh : Nat) (nsf : Nat) (nss : Nat) (nrc : Nat) (jr : Nat) (jd : Nat) (mnumber : Int32) (mwhose : Int32) (msize : Int32) (misParted : Int32) (fnrc : Nat → Int32) (hjr : jr ≤ 30) (hjd : jd < 7) : MI l G yX12_bodyFrom cX12_bodyFrom 5 (some .int) 30 0 0 [.ref h0, .int 2, .int 2, .int xx] [(h0, .inr (12, [.ref nw, .ref nk, .int mhasKept, .ref nt, .int mtaped, .ref nr, .int mrowMany, .int mroundOf, .int mroundFrom, .int mouts, .ref nm, .int mfromHour, .int mtoHour, .ref ns, .int mfrom, .int mto, .int msort, .int misFault, .int mdeep, .int mcoded, .int mlines, .ref nl, .ref nc, .ref nF, .ref np, .ref ntr, .ref nb, .int mbestCost, .ref nso, .ref nsi, .ref nit, .ref nsh, .ref nsf, .ref nss, .ref nrc, .int (nI jr), .int (nI jd), .int mnumber, .int mwhose, .int msize, .int misParted])), (nrc, .inl (G.2.1, 30, .inl fnrc))] (fun (r : Int32) (u : Nat × Int32 × (Nat → Int32)) => (True) ∧ (u.1 ≤ 30)) (fun u : Nat × Int32 × (Nat → Int32) => [(h0, .inr (12, [.ref nw, .ref nk, .int mhasKept, .ref nt, .int mtaped, .ref nr, .int mrowMany, .int mroundOf, .int mroundFrom, .int mouts, .ref nm, .int mfromHour, .int mtoHour, .ref ns, .int mfrom, .int mto, .int msort, .int misFault, .int mdeep, .int mcoded, .int mlines, .ref nl, .ref nc, .ref nF, .ref np, .ref ntr, .ref nb, .int mbestCost, .ref nso, .ref nsi, .ref nit, .ref nsh, .ref nsf, .ref nss, .ref nrc, .int (nI u.1), .int (nI jd), .int mnumber, .int mwhose, .int msize, .int u.2.1])), (nrc, .inl (G.2.1, 30, .inl u.2.2))]) := by
  refine MI.start (by decide +kernel) (Nat.le_of_ble_eq_true rfl) ?_
  intro p e s m below meth c A ls hC hK hP hD hS hA hl
  have hl : lv_has ls 5 [(0, .ref h0), (1, .int 2), (2, .int 2), (3, .int xx)] := hl
  obtain ⟨hx, hb, hr, hml, hB, hown, hlocks, hnm⟩ := id hC
  refine lv_iload_n hx hb dX12_bodyFrom_0 rfl (lv_at hl 1 rfl) ?_
  refine lv_istore (lv' := [(4, .int 2), (0, .ref h0), (1, .int 2), (2, .int 2), (3, .int xx)]) hx hb dX12_bodyFrom_1 hl (by decide) rfl (fun ls hl => ?_)
  refine lv_iload hx hb dX12_bodyFrom_3 (lv_at hl 0 rfl) ?_
  refine lv_iload_n hx hb dX12_bodyFrom_5 rfl (lv_at hl 3 rfl) ?_
  refine pS hC hK hl (m_hasOwn22 l G) si_X12_360 rfl rfl (Nat.le_of_ble_eq_true rfl) ⟨Nat.le_of_ble_eq_true rfl, Nat.le_of_ble_eq_true rfl⟩ ⟨by first | exact Nat.le_of_ble_eq_true rfl | exact Nat.zero_le _, by first | exact Nat.le_of_ble_eq_true rfl | exact Nat.zero_le _⟩ dX12_bodyFrom_6 (fun r5863 hr5863 => ?_)
  obtain rfl := hr5863
  refine lv_if_ne (tgt := 22) hx hb dX12_bodyFrom_9 (by decide) (fun _ => ?_) (fun c9 => absurd c9 (by decide))
  refine lv_aload_n hx hb dX12_bodyFrom_22 rfl (lv_at hl 1 rfl) ?_
  refine lv_iload hx hb dX12_bodyFrom_23 (lv_at hl 0 rfl) ?_
  refine lv_iload_n hx hb dX12_bodyFrom_25 rfl (lv_at hl 3 rfl) ?_
  refine lv_iload_n hx hb dX12_bodyFrom_26 rfl (lv_at hl 4 rfl) ?_
  refine iV (wr := []) hC hK hl hP hD hS hA (m_body22 l G h0 xx nw nk mhasKept nt mtaped nr mrowMany mroundOf mroundFrom mouts nm mfromHour mtoHour ns mfrom mto msort misFault mdeep mcoded mlines nl nc nF np ntr nb mbestCost nso nsi nit nsh nsf nss nrc jr jd mnumber mwhose msize misParted fnrc (by omega) (by omega)) si_X12_363 [0, 1] [] rfl rfl (by decide) rfl (by decide) (by decide) rfl rfl rfl rfl rfl (Nat.le_of_ble_eq_true rfl) ⟨Nat.le_of_ble_eq_true rfl, Nat.le_of_ble_eq_true rfl⟩ ⟨Nat.le_of_ble_eq_true rfl, Nat.le_of_ble_eq_true rfl⟩ dX12_bodyFrom_27 (fun r5865 u5866 H locs hr5865 hP hD hS => ?_)
  obtain ⟨jr15867, ip15868, gtrc5869⟩ := u5866
  try dsimp only at hr5865
  have hP : va_P G.1 vwCl [(h0, .inr (12, [.ref nw, .ref nk, .int mhasKept, .ref nt, .int mtaped, .ref nr, .int mrowMany, .int mroundOf, .int mroundFrom, .int mouts, .ref nm, .int mfromHour, .int mtoHour, .ref ns, .int mfrom, .int mto, .int msort, .int misFault, .int mdeep, .int mcoded, .int mlines, .ref nl, .ref nc, .ref nF, .ref np, .ref ntr, .ref nb, .int mbestCost, .ref nso, .ref nsi, .ref nit, .ref nsh, .ref nsf, .ref nss, .ref nrc, .int (nI jr15867), .int (nI jd), .int mnumber, .int mwhose, .int msize, .int ip15868])), (nrc, .inl (G.2.1, 30, .inl gtrc5869))] H := hP
  have hD : va_D A [(h0, .inr (12, [.ref nw, .ref nk, .int mhasKept, .ref nt, .int mtaped, .ref nr, .int mrowMany, .int mroundOf, .int mroundFrom, .int mouts, .ref nm, .int mfromHour, .int mtoHour, .ref ns, .int mfrom, .int mto, .int msort, .int misFault, .int mdeep, .int mcoded, .int mlines, .ref nl, .ref nc, .ref nF, .ref np, .ref ntr, .ref nb, .int mbestCost, .ref nso, .ref nsi, .ref nit, .ref nsh, .ref nsf, .ref nss, .ref nrc, .int (nI jr15867), .int (nI jd), .int mnumber, .int mwhose, .int msize, .int ip15868])), (nrc, .inl (G.2.1, 30, .inl gtrc5869))] := hD
  obtain ⟨hr5865, w5870⟩ := hr5865
  exact RI (v := r5865) hC hP hD hS [0, 1] (jr15867, ip15868, gtrc5869) rfl rfl (by decide) (⟨trivial, by omega⟩) rfl dX12_bodyFrom_30
set_option maxHeartbeats 4000000 in
set_option maxRecDepth 100000 in
theorem m_body42 (l : Launch) (G : GG) (h0 : Nat) (xx : Int32) (nw : Nat) (nk : Nat) (mhasKept : Int32) (nt : Nat) (mtaped : Int32) (nr : Nat) (mrowMany : Int32) (mroundOf : Int32) (mroundFrom : Int32) (mouts : Int32) (nm : Nat) (mfromHour : Int32) (mtoHour : Int32) (ns : Nat) (mfrom : Int32) (mto : Int32) (msort : Int32) (misFault : Int32) (mdeep : Int32) (mcoded : Int32) (mlines : Int32) (nl : Nat) (nc : Nat) (nF : Nat) (np : Nat) (ntr : Nat) (nb : Nat) (mbestCost : Int32) (nso : Nat) (nsi : Nat) (nit : Nat) (nsh : Nat) (nsf : Nat) (nss : Nat) (nrc : Nat) (jr : Nat) (jd : Nat) (mnumber : Int32) (mwhose : Int32) (msize : Int32) (misParted : Int32) (fnrc : Nat → Int32) (hjr : jr ≤ 30) (hjd : jd < 7) : MI l G yX12_body cX12_body 6 (some .int) 31 0 0 [.ref h0, .int 4, .int 2, .int xx] [(h0, .inr (12, [.ref nw, .ref nk, .int mhasKept, .ref nt, .int mtaped, .ref nr, .int mrowMany, .int mroundOf, .int mroundFrom, .int mouts, .ref nm, .int mfromHour, .int mtoHour, .ref ns, .int mfrom, .int mto, .int msort, .int misFault, .int mdeep, .int mcoded, .int mlines, .ref nl, .ref nc, .ref nF, .ref np, .ref ntr, .ref nb, .int mbestCost, .ref nso, .ref nsi, .ref nit, .ref nsh, .ref nsf, .ref nss, .ref nrc, .int (nI jr), .int (nI jd), .int mnumber, .int mwhose, .int msize, .int misParted])), (nrc, .inl (G.2.1, 30, .inl fnrc))] (fun (r : Int32) (u : Nat × Int32 × (Nat → Int32)) => (True) ∧ (u.1 ≤ 30)) (fun u : Nat × Int32 × (Nat → Int32) => [(h0, .inr (12, [.ref nw, .ref nk, .int mhasKept, .ref nt, .int mtaped, .ref nr, .int mrowMany, .int mroundOf, .int mroundFrom, .int mouts, .ref nm, .int mfromHour, .int mtoHour, .ref ns, .int mfrom, .int mto, .int msort, .int misFault, .int mdeep, .int mcoded, .int mlines, .ref nl, .ref nc, .ref nF, .ref np, .ref ntr, .ref nb, .int mbestCost, .ref nso, .ref nsi, .ref nit, .ref nsh, .ref nsf, .ref nss, .ref nrc, .int (nI u.1), .int (nI jd), .int mnumber, .int mwhose, .int msize, .int u.2.1])), (nrc, .inl (G.2.1, 30, .inl u.2.2))]) := by
  refine MI.start (by decide +kernel) (Nat.le_of_ble_eq_true rfl) ?_
  intro p e s m below meth c A ls hC hK hP hD hS hA hl
  have hl : lv_has ls 6 [(0, .ref h0), (1, .int 4), (2, .int 2), (3, .int xx)] := hl
  obtain ⟨hx, hb, hr, hml, hB, hown, hlocks, hnm⟩ := id hC
  refine lv_iconst (v := 4) hx hb dX12_body_0 (by decide) ?_
  refine lv_iload_n hx hb dX12_body_1 rfl (lv_at hl 1 rfl) ?_
  refine lv_imul hx hb dX12_body_2 ?_
  refine eqi (x1 := 16) (by decide) ?_
  refine lv_iload_n hx hb dX12_body_3 rfl (lv_at hl 2 rfl) ?_
  refine lv_iadd hx hb dX12_body_4 ?_
  refine eqi (x1 := 18) (by decide) ?_
  refine lv_tableIn (tgt := 293) hx hb dX12_body_5 (by decide) (by decide) rfl (by decide) ?_
  refine lv_aload_n hx hb dX12_body_293 rfl (lv_at hl 0 rfl) ?_
  refine lv_bipush (v := 51) hx hb dX12_body_294 (by decide) ?_
  refine vV (wr := []) hC hK hl hP hD hS hA (m_began l G h0 51 nw nk mhasKept nt mtaped nr mrowMany mroundOf mroundFrom mouts nm mfromHour mtoHour ns mfrom mto msort misFault mdeep mcoded mlines nl nc nF np ntr nb mbestCost nso nsi nit nsh nsf nss nrc jr (nI jd) mnumber mwhose msize misParted fnrc (by omega)) si_X12_366 [0, 1] [] rfl rfl (by decide) rfl (by decide) (by decide) rfl rfl rfl rfl rfl (Nat.le_of_ble_eq_true rfl) ⟨Nat.le_of_ble_eq_true rfl, Nat.le_of_ble_eq_true rfl⟩ ⟨Nat.le_of_ble_eq_true rfl, Nat.le_of_ble_eq_true rfl⟩ dX12_body_296 (fun u5872 H locs hr5871 hP hD hS => ?_)
  obtain ⟨jr15873, gtrc5874⟩ := u5872
  try dsimp only at hr5871
  have hP : va_P G.1 vwCl [(h0, .inr (12, [.ref nw, .ref nk, .int mhasKept, .ref nt, .int mtaped, .ref nr, .int mrowMany, .int mroundOf, .int mroundFrom, .int mouts, .ref nm, .int mfromHour, .int mtoHour, .ref ns, .int mfrom, .int mto, .int msort, .int misFault, .int mdeep, .int mcoded, .int mlines, .ref nl, .ref nc, .ref nF, .ref np, .ref ntr, .ref nb, .int mbestCost, .ref nso, .ref nsi, .ref nit, .ref nsh, .ref nsf, .ref nss, .ref nrc, .int (nI jr15873), .int (nI jd), .int mnumber, .int mwhose, .int msize, .int misParted])), (nrc, .inl (G.2.1, 30, .inl gtrc5874))] H := hP
  have hD : va_D A [(h0, .inr (12, [.ref nw, .ref nk, .int mhasKept, .ref nt, .int mtaped, .ref nr, .int mrowMany, .int mroundOf, .int mroundFrom, .int mouts, .ref nm, .int mfromHour, .int mtoHour, .ref ns, .int mfrom, .int mto, .int msort, .int misFault, .int mdeep, .int mcoded, .int mlines, .ref nl, .ref nc, .ref nF, .ref np, .ref ntr, .ref nb, .int mbestCost, .ref nso, .ref nsi, .ref nit, .ref nsh, .ref nsf, .ref nss, .ref nrc, .int (nI jr15873), .int (nI jd), .int mnumber, .int mwhose, .int msize, .int misParted])), (nrc, .inl (G.2.1, 30, .inl gtrc5874))] := hD
  have w5875 := hr5871
  refine lv_aload_n hx hb dX12_body_299 rfl (lv_at hl 0 rfl) ?_
  refine lv_iconst (v := 0) hx hb dX12_body_300 (by decide) ?_
  refine lv_iconst (v := 2) hx hb dX12_body_301 (by decide) ?_
  refine lv_iload_n hx hb dX12_body_302 rfl (lv_at hl 3 rfl) ?_
  refine iV (wr := []) hC hK hl hP hD hS hA (m_from02 l G h0 xx nw nk mhasKept nt mtaped nr mrowMany mroundOf mroundFrom mouts nm mfromHour mtoHour ns mfrom mto msort misFault mdeep mcoded mlines nl nc nF np ntr nb mbestCost nso nsi nit nsh nsf nss nrc jr15873 jd mnumber mwhose msize misParted gtrc5874 (by omega) (by omega)) si_X12_357 [0, 1] [] rfl rfl (by decide) rfl (by decide) (by decide) rfl rfl rfl rfl rfl (Nat.le_of_ble_eq_true rfl) ⟨Nat.le_of_ble_eq_true rfl, Nat.le_of_ble_eq_true rfl⟩ ⟨Nat.le_of_ble_eq_true rfl, Nat.le_of_ble_eq_true rfl⟩ dX12_body_303 (fun r5876 u5877 H locs hr5876 hP hD hS => ?_)
  obtain ⟨jr15878, ip15879, gtrc5880⟩ := u5877
  try dsimp only at hr5876
  have hP : va_P G.1 vwCl [(h0, .inr (12, [.ref nw, .ref nk, .int mhasKept, .ref nt, .int mtaped, .ref nr, .int mrowMany, .int mroundOf, .int mroundFrom, .int mouts, .ref nm, .int mfromHour, .int mtoHour, .ref ns, .int mfrom, .int mto, .int msort, .int misFault, .int mdeep, .int mcoded, .int mlines, .ref nl, .ref nc, .ref nF, .ref np, .ref ntr, .ref nb, .int mbestCost, .ref nso, .ref nsi, .ref nit, .ref nsh, .ref nsf, .ref nss, .ref nrc, .int (nI jr15878), .int (nI jd), .int mnumber, .int mwhose, .int msize, .int ip15879])), (nrc, .inl (G.2.1, 30, .inl gtrc5880))] H := hP
  have hD : va_D A [(h0, .inr (12, [.ref nw, .ref nk, .int mhasKept, .ref nt, .int mtaped, .ref nr, .int mrowMany, .int mroundOf, .int mroundFrom, .int mouts, .ref nm, .int mfromHour, .int mtoHour, .ref ns, .int mfrom, .int mto, .int msort, .int misFault, .int mdeep, .int mcoded, .int mlines, .ref nl, .ref nc, .ref nF, .ref np, .ref ntr, .ref nb, .int mbestCost, .ref nso, .ref nsi, .ref nit, .ref nsh, .ref nsf, .ref nss, .ref nrc, .int (nI jr15878), .int (nI jd), .int mnumber, .int mwhose, .int msize, .int ip15879])), (nrc, .inl (G.2.1, 30, .inl gtrc5880))] := hD
  obtain ⟨hr5876, w5881⟩ := hr5876
  refine lv_istore (lv' := [(4, .int r5876), (0, .ref h0), (1, .int 4), (2, .int 2), (3, .int xx)]) hx hb dX12_body_306 hl (by decide) rfl (fun ls hl => ?_)
  refine lv_iload hx hb dX12_body_308 (lv_at hl 0 rfl) ?_
  refine lv_aload_n hx hb dX12_body_310 rfl (lv_at hl 1 rfl) ?_
  refine lv_iconst (v := 1) hx hb dX12_body_311 (by decide) ?_
  refine lv_iconst (v := 1) hx hb dX12_body_312 (by decide) ?_
  refine iV (wr := []) hC hK hl hP hD hS hA (m_dealt1 l G h0 1 nw nk mhasKept nt mtaped nr mrowMany mroundOf mroundFrom mouts nm mfromHour mtoHour ns mfrom mto msort misFault mdeep mcoded mlines nl nc nF np ntr nb mbestCost nso nsi nit nsh nsf nss nrc jr15878 jd mnumber mwhose msize ip15879 gtrc5880 (by omega) (by omega)) si_X12_372 [0, 1] [] rfl rfl (by decide) rfl (by decide) (by decide) rfl rfl rfl rfl rfl (Nat.le_of_ble_eq_true rfl) ⟨Nat.le_of_ble_eq_true rfl, Nat.le_of_ble_eq_true rfl⟩ ⟨Nat.le_of_ble_eq_true rfl, Nat.le_of_ble_eq_true rfl⟩ dX12_body_313 (fun r5882 u5883 H locs hr5882 hP hD hS => ?_)
  obtain ⟨jr15884, ip15885, gtrc5886⟩ := u5883
  try dsimp only at hr5882
  have hP : va_P G.1 vwCl [(h0, .inr (12, [.ref nw, .ref nk, .int mhasKept, .ref nt, .int mtaped, .ref nr, .int mrowMany, .int mroundOf, .int mroundFrom, .int mouts, .ref nm, .int mfromHour, .int mtoHour, .ref ns, .int mfrom, .int mto, .int msort, .int misFault, .int mdeep, .int mcoded, .int mlines, .ref nl, .ref nc, .ref nF, .ref np, .ref ntr, .ref nb, .int mbestCost, .ref nso, .ref nsi, .ref nit, .ref nsh, .ref nsf, .ref nss, .ref nrc, .int (nI jr15884), .int (nI jd), .int mnumber, .int mwhose, .int msize, .int ip15885])), (nrc, .inl (G.2.1, 30, .inl gtrc5886))] H := hP
  have hD : va_D A [(h0, .inr (12, [.ref nw, .ref nk, .int mhasKept, .ref nt, .int mtaped, .ref nr, .int mrowMany, .int mroundOf, .int mroundFrom, .int mouts, .ref nm, .int mfromHour, .int mtoHour, .ref ns, .int mfrom, .int mto, .int msort, .int misFault, .int mdeep, .int mcoded, .int mlines, .ref nl, .ref nc, .ref nF, .ref np, .ref ntr, .ref nb, .int mbestCost, .ref nso, .ref nsi, .ref nit, .ref nsh, .ref nsf, .ref nss, .ref nrc, .int (nI jr15884), .int (nI jd), .int mnumber, .int mwhose, .int msize, .int ip15885])), (nrc, .inl (G.2.1, 30, .inl gtrc5886))] := hD
  obtain ⟨hr5882, w5887⟩ := hr5882
  refine lv_iadd hx hb dX12_body_316 ?_
  exact RI (v := r5876 + r5882) hC hP hD hS [0, 1] (jr15884, ip15885, gtrc5886) rfl rfl (by decide) (⟨trivial, by omega⟩) rfl dX12_body_317
set_option maxHeartbeats 4000000 in
set_option maxRecDepth 100000 in
theorem m_from42 (l : Launch) (G : GG) (h0 : Nat) (xx : Int32) (nw : Nat) (nk : Nat) (mhasKept : Int32) (nt : Nat) (mtaped : Int32) (nr : Nat) (mrowMany : Int32) (mroundOf : Int32) (mroundFrom : Int32) (mouts : Int32) (nm : Nat) (mfromHour : Int32) (mtoHour : Int32) (ns : Nat) (mfrom : Int32) (mto : Int32) (msort : Int32) (misFault : Int32) (mdeep : Int32) (mcoded : Int32) (mlines : Int32) (nl : Nat) (nc : Nat) (nF : Nat) (np : Nat) (ntr : Nat) (nb : Nat) (mbestCost : Int32) (nso : Nat) (nsi : Nat) (nit : Nat) (nsh : Nat) (nsf : Nat) (nss : Nat) (nrc : Nat) (jr : Nat) (jd : Nat) (mnumber : Int32) (mwhose : Int32) (msize : Int32) (misParted : Int32) (fnrc : Nat → Int32) (hjr : jr ≤ 30) (hjd : jd < 7) : MI l G yX12_bodyFrom cX12_bodyFrom 5 (some .int) 32 0 0 [.ref h0, .int 4, .int 2, .int xx] [(h0, .inr (12, [.ref nw, .ref nk, .int mhasKept, .ref nt, .int mtaped, .ref nr, .int mrowMany, .int mroundOf, .int mroundFrom, .int mouts, .ref nm, .int mfromHour, .int mtoHour, .ref ns, .int mfrom, .int mto, .int msort, .int misFault, .int mdeep, .int mcoded, .int mlines, .ref nl, .ref nc, .ref nF, .ref np, .ref ntr, .ref nb, .int mbestCost, .ref nso, .ref nsi, .ref nit, .ref nsh, .ref nsf, .ref nss, .ref nrc, .int (nI jr), .int (nI jd), .int mnumber, .int mwhose, .int msize, .int misParted])), (nrc, .inl (G.2.1, 30, .inl fnrc))] (fun (r : Int32) (u : Nat × Int32 × (Nat → Int32)) => (True) ∧ (u.1 ≤ 30)) (fun u : Nat × Int32 × (Nat → Int32) => [(h0, .inr (12, [.ref nw, .ref nk, .int mhasKept, .ref nt, .int mtaped, .ref nr, .int mrowMany, .int mroundOf, .int mroundFrom, .int mouts, .ref nm, .int mfromHour, .int mtoHour, .ref ns, .int mfrom, .int mto, .int msort, .int misFault, .int mdeep, .int mcoded, .int mlines, .ref nl, .ref nc, .ref nF, .ref np, .ref ntr, .ref nb, .int mbestCost, .ref nso, .ref nsi, .ref nit, .ref nsh, .ref nsf, .ref nss, .ref nrc, .int (nI u.1), .int (nI jd), .int mnumber, .int mwhose, .int msize, .int u.2.1])), (nrc, .inl (G.2.1, 30, .inl u.2.2))]) := by
  refine MI.start (by decide +kernel) (Nat.le_of_ble_eq_true rfl) ?_
  intro p e s m below meth c A ls hC hK hP hD hS hA hl
  have hl : lv_has ls 5 [(0, .ref h0), (1, .int 4), (2, .int 2), (3, .int xx)] := hl
  obtain ⟨hx, hb, hr, hml, hB, hown, hlocks, hnm⟩ := id hC
  refine lv_iload_n hx hb dX12_bodyFrom_0 rfl (lv_at hl 1 rfl) ?_
  refine lv_istore (lv' := [(4, .int 4), (0, .ref h0), (1, .int 4), (2, .int 2), (3, .int xx)]) hx hb dX12_bodyFrom_1 hl (by decide) rfl (fun ls hl => ?_)
  refine lv_iload hx hb dX12_bodyFrom_3 (lv_at hl 0 rfl) ?_
  refine lv_iload_n hx hb dX12_bodyFrom_5 rfl (lv_at hl 3 rfl) ?_
  refine pS hC hK hl (m_hasOwn42 l G) si_X12_360 rfl rfl (Nat.le_of_ble_eq_true rfl) ⟨Nat.le_of_ble_eq_true rfl, Nat.le_of_ble_eq_true rfl⟩ ⟨by first | exact Nat.le_of_ble_eq_true rfl | exact Nat.zero_le _, by first | exact Nat.le_of_ble_eq_true rfl | exact Nat.zero_le _⟩ dX12_bodyFrom_6 (fun r5888 hr5888 => ?_)
  obtain rfl := hr5888
  refine lv_if_ne (tgt := 22) hx hb dX12_bodyFrom_9 (by decide) (fun _ => ?_) (fun c9 => absurd c9 (by decide))
  refine lv_aload_n hx hb dX12_bodyFrom_22 rfl (lv_at hl 1 rfl) ?_
  refine lv_iload hx hb dX12_bodyFrom_23 (lv_at hl 0 rfl) ?_
  refine lv_iload_n hx hb dX12_bodyFrom_25 rfl (lv_at hl 3 rfl) ?_
  refine lv_iload_n hx hb dX12_bodyFrom_26 rfl (lv_at hl 4 rfl) ?_
  refine iV (wr := []) hC hK hl hP hD hS hA (m_body42 l G h0 xx nw nk mhasKept nt mtaped nr mrowMany mroundOf mroundFrom mouts nm mfromHour mtoHour ns mfrom mto msort misFault mdeep mcoded mlines nl nc nF np ntr nb mbestCost nso nsi nit nsh nsf nss nrc jr jd mnumber mwhose msize misParted fnrc (by omega) (by omega)) si_X12_363 [0, 1] [] rfl rfl (by decide) rfl (by decide) (by decide) rfl rfl rfl rfl rfl (Nat.le_of_ble_eq_true rfl) ⟨Nat.le_of_ble_eq_true rfl, Nat.le_of_ble_eq_true rfl⟩ ⟨Nat.le_of_ble_eq_true rfl, Nat.le_of_ble_eq_true rfl⟩ dX12_bodyFrom_27 (fun r5890 u5891 H locs hr5890 hP hD hS => ?_)
  obtain ⟨jr15892, ip15893, gtrc5894⟩ := u5891
  try dsimp only at hr5890
  have hP : va_P G.1 vwCl [(h0, .inr (12, [.ref nw, .ref nk, .int mhasKept, .ref nt, .int mtaped, .ref nr, .int mrowMany, .int mroundOf, .int mroundFrom, .int mouts, .ref nm, .int mfromHour, .int mtoHour, .ref ns, .int mfrom, .int mto, .int msort, .int misFault, .int mdeep, .int mcoded, .int mlines, .ref nl, .ref nc, .ref nF, .ref np, .ref ntr, .ref nb, .int mbestCost, .ref nso, .ref nsi, .ref nit, .ref nsh, .ref nsf, .ref nss, .ref nrc, .int (nI jr15892), .int (nI jd), .int mnumber, .int mwhose, .int msize, .int ip15893])), (nrc, .inl (G.2.1, 30, .inl gtrc5894))] H := hP
  have hD : va_D A [(h0, .inr (12, [.ref nw, .ref nk, .int mhasKept, .ref nt, .int mtaped, .ref nr, .int mrowMany, .int mroundOf, .int mroundFrom, .int mouts, .ref nm, .int mfromHour, .int mtoHour, .ref ns, .int mfrom, .int mto, .int msort, .int misFault, .int mdeep, .int mcoded, .int mlines, .ref nl, .ref nc, .ref nF, .ref np, .ref ntr, .ref nb, .int mbestCost, .ref nso, .ref nsi, .ref nit, .ref nsh, .ref nsf, .ref nss, .ref nrc, .int (nI jr15892), .int (nI jd), .int mnumber, .int mwhose, .int msize, .int ip15893])), (nrc, .inl (G.2.1, 30, .inl gtrc5894))] := hD
  obtain ⟨hr5890, w5895⟩ := hr5890
  exact RI (v := r5890) hC hP hD hS [0, 1] (jr15892, ip15893, gtrc5894) rfl rfl (by decide) (⟨trivial, by omega⟩) rfl dX12_bodyFrom_30
set_option maxHeartbeats 4000000 in
set_option maxRecDepth 100000 in
theorem m_body52 (l : Launch) (G : GG) (h0 : Nat) (xx : Int32) (nw : Nat) (nk : Nat) (mhasKept : Int32) (nt : Nat) (mtaped : Int32) (nr : Nat) (mrowMany : Int32) (mroundOf : Int32) (mroundFrom : Int32) (mouts : Int32) (nm : Nat) (mfromHour : Int32) (mtoHour : Int32) (ns : Nat) (mfrom : Int32) (mto : Int32) (msort : Int32) (misFault : Int32) (mdeep : Int32) (mcoded : Int32) (mlines : Int32) (nl : Nat) (nc : Nat) (nF : Nat) (np : Nat) (ntr : Nat) (nb : Nat) (mbestCost : Int32) (nso : Nat) (nsi : Nat) (nit : Nat) (nsh : Nat) (nsf : Nat) (nss : Nat) (nrc : Nat) (jr : Nat) (jd : Nat) (mnumber : Int32) (mwhose : Int32) (msize : Int32) (misParted : Int32) (fnrc : Nat → Int32) (hjr : jr ≤ 30) (hjd : jd < 7) : MI l G yX12_body cX12_body 6 (some .int) 33 0 0 [.ref h0, .int 5, .int 2, .int xx] [(h0, .inr (12, [.ref nw, .ref nk, .int mhasKept, .ref nt, .int mtaped, .ref nr, .int mrowMany, .int mroundOf, .int mroundFrom, .int mouts, .ref nm, .int mfromHour, .int mtoHour, .ref ns, .int mfrom, .int mto, .int msort, .int misFault, .int mdeep, .int mcoded, .int mlines, .ref nl, .ref nc, .ref nF, .ref np, .ref ntr, .ref nb, .int mbestCost, .ref nso, .ref nsi, .ref nit, .ref nsh, .ref nsf, .ref nss, .ref nrc, .int (nI jr), .int (nI jd), .int mnumber, .int mwhose, .int msize, .int misParted])), (nrc, .inl (G.2.1, 30, .inl fnrc))] (fun (r : Int32) (u : Nat × Int32 × (Nat → Int32)) => (True) ∧ (u.1 ≤ 30)) (fun u : Nat × Int32 × (Nat → Int32) => [(h0, .inr (12, [.ref nw, .ref nk, .int mhasKept, .ref nt, .int mtaped, .ref nr, .int mrowMany, .int mroundOf, .int mroundFrom, .int mouts, .ref nm, .int mfromHour, .int mtoHour, .ref ns, .int mfrom, .int mto, .int msort, .int misFault, .int mdeep, .int mcoded, .int mlines, .ref nl, .ref nc, .ref nF, .ref np, .ref ntr, .ref nb, .int mbestCost, .ref nso, .ref nsi, .ref nit, .ref nsh, .ref nsf, .ref nss, .ref nrc, .int (nI u.1), .int (nI jd), .int mnumber, .int mwhose, .int msize, .int u.2.1])), (nrc, .inl (G.2.1, 30, .inl u.2.2))]) := by
  refine MI.start (by decide +kernel) (Nat.le_of_ble_eq_true rfl) ?_
  intro p e s m below meth c A ls hC hK hP hD hS hA hl
  have hl : lv_has ls 6 [(0, .ref h0), (1, .int 5), (2, .int 2), (3, .int xx)] := hl
  obtain ⟨hx, hb, hr, hml, hB, hown, hlocks, hnm⟩ := id hC
  refine lv_iconst (v := 4) hx hb dX12_body_0 (by decide) ?_
  refine lv_iload_n hx hb dX12_body_1 rfl (lv_at hl 1 rfl) ?_
  refine lv_imul hx hb dX12_body_2 ?_
  refine eqi (x1 := 20) (by decide) ?_
  refine lv_iload_n hx hb dX12_body_3 rfl (lv_at hl 2 rfl) ?_
  refine lv_iadd hx hb dX12_body_4 ?_
  refine eqi (x1 := 22) (by decide) ?_
  refine lv_tableIn (tgt := 318) hx hb dX12_body_5 (by decide) (by decide) rfl (by decide) ?_
  refine lv_aload_n hx hb dX12_body_318 rfl (lv_at hl 0 rfl) ?_
  refine lv_bipush (v := 60) hx hb dX12_body_319 (by decide) ?_
  refine vV (wr := []) hC hK hl hP hD hS hA (m_began l G h0 60 nw nk mhasKept nt mtaped nr mrowMany mroundOf mroundFrom mouts nm mfromHour mtoHour ns mfrom mto msort misFault mdeep mcoded mlines nl nc nF np ntr nb mbestCost nso nsi nit nsh nsf nss nrc jr (nI jd) mnumber mwhose msize misParted fnrc (by omega)) si_X12_366 [0, 1] [] rfl rfl (by decide) rfl (by decide) (by decide) rfl rfl rfl rfl rfl (Nat.le_of_ble_eq_true rfl) ⟨Nat.le_of_ble_eq_true rfl, Nat.le_of_ble_eq_true rfl⟩ ⟨Nat.le_of_ble_eq_true rfl, Nat.le_of_ble_eq_true rfl⟩ dX12_body_321 (fun u5897 H locs hr5896 hP hD hS => ?_)
  obtain ⟨jr15898, gtrc5899⟩ := u5897
  try dsimp only at hr5896
  have hP : va_P G.1 vwCl [(h0, .inr (12, [.ref nw, .ref nk, .int mhasKept, .ref nt, .int mtaped, .ref nr, .int mrowMany, .int mroundOf, .int mroundFrom, .int mouts, .ref nm, .int mfromHour, .int mtoHour, .ref ns, .int mfrom, .int mto, .int msort, .int misFault, .int mdeep, .int mcoded, .int mlines, .ref nl, .ref nc, .ref nF, .ref np, .ref ntr, .ref nb, .int mbestCost, .ref nso, .ref nsi, .ref nit, .ref nsh, .ref nsf, .ref nss, .ref nrc, .int (nI jr15898), .int (nI jd), .int mnumber, .int mwhose, .int msize, .int misParted])), (nrc, .inl (G.2.1, 30, .inl gtrc5899))] H := hP
  have hD : va_D A [(h0, .inr (12, [.ref nw, .ref nk, .int mhasKept, .ref nt, .int mtaped, .ref nr, .int mrowMany, .int mroundOf, .int mroundFrom, .int mouts, .ref nm, .int mfromHour, .int mtoHour, .ref ns, .int mfrom, .int mto, .int msort, .int misFault, .int mdeep, .int mcoded, .int mlines, .ref nl, .ref nc, .ref nF, .ref np, .ref ntr, .ref nb, .int mbestCost, .ref nso, .ref nsi, .ref nit, .ref nsh, .ref nsf, .ref nss, .ref nrc, .int (nI jr15898), .int (nI jd), .int mnumber, .int mwhose, .int msize, .int misParted])), (nrc, .inl (G.2.1, 30, .inl gtrc5899))] := hD
  have w5900 := hr5896
  refine lv_aload_n hx hb dX12_body_324 rfl (lv_at hl 0 rfl) ?_
  refine lv_iconst (v := 4) hx hb dX12_body_325 (by decide) ?_
  refine lv_iconst (v := 2) hx hb dX12_body_326 (by decide) ?_
  refine lv_iload_n hx hb dX12_body_327 rfl (lv_at hl 3 rfl) ?_
  refine iV (wr := []) hC hK hl hP hD hS hA (m_from42 l G h0 xx nw nk mhasKept nt mtaped nr mrowMany mroundOf mroundFrom mouts nm mfromHour mtoHour ns mfrom mto msort misFault mdeep mcoded mlines nl nc nF np ntr nb mbestCost nso nsi nit nsh nsf nss nrc jr15898 jd mnumber mwhose msize misParted gtrc5899 (by omega) (by omega)) si_X12_357 [0, 1] [] rfl rfl (by decide) rfl (by decide) (by decide) rfl rfl rfl rfl rfl (Nat.le_of_ble_eq_true rfl) ⟨Nat.le_of_ble_eq_true rfl, Nat.le_of_ble_eq_true rfl⟩ ⟨Nat.le_of_ble_eq_true rfl, Nat.le_of_ble_eq_true rfl⟩ dX12_body_328 (fun r5901 u5902 H locs hr5901 hP hD hS => ?_)
  obtain ⟨jr15903, ip15904, gtrc5905⟩ := u5902
  try dsimp only at hr5901
  have hP : va_P G.1 vwCl [(h0, .inr (12, [.ref nw, .ref nk, .int mhasKept, .ref nt, .int mtaped, .ref nr, .int mrowMany, .int mroundOf, .int mroundFrom, .int mouts, .ref nm, .int mfromHour, .int mtoHour, .ref ns, .int mfrom, .int mto, .int msort, .int misFault, .int mdeep, .int mcoded, .int mlines, .ref nl, .ref nc, .ref nF, .ref np, .ref ntr, .ref nb, .int mbestCost, .ref nso, .ref nsi, .ref nit, .ref nsh, .ref nsf, .ref nss, .ref nrc, .int (nI jr15903), .int (nI jd), .int mnumber, .int mwhose, .int msize, .int ip15904])), (nrc, .inl (G.2.1, 30, .inl gtrc5905))] H := hP
  have hD : va_D A [(h0, .inr (12, [.ref nw, .ref nk, .int mhasKept, .ref nt, .int mtaped, .ref nr, .int mrowMany, .int mroundOf, .int mroundFrom, .int mouts, .ref nm, .int mfromHour, .int mtoHour, .ref ns, .int mfrom, .int mto, .int msort, .int misFault, .int mdeep, .int mcoded, .int mlines, .ref nl, .ref nc, .ref nF, .ref np, .ref ntr, .ref nb, .int mbestCost, .ref nso, .ref nsi, .ref nit, .ref nsh, .ref nsf, .ref nss, .ref nrc, .int (nI jr15903), .int (nI jd), .int mnumber, .int mwhose, .int msize, .int ip15904])), (nrc, .inl (G.2.1, 30, .inl gtrc5905))] := hD
  obtain ⟨hr5901, w5906⟩ := hr5901
  refine lv_iconst (v := 2) hx hb dX12_body_331 (by decide) ?_
  refine lv_imul hx hb dX12_body_332 ?_
  exact RI (v := r5901 * 2) hC hP hD hS [0, 1] (jr15903, ip15904, gtrc5905) rfl rfl (by decide) (⟨trivial, by omega⟩) rfl dX12_body_333
set_option maxHeartbeats 4000000 in
set_option maxRecDepth 100000 in
theorem m_from52 (l : Launch) (G : GG) (h0 : Nat) (xx : Int32) (nw : Nat) (nk : Nat) (mhasKept : Int32) (nt : Nat) (mtaped : Int32) (nr : Nat) (mrowMany : Int32) (mroundOf : Int32) (mroundFrom : Int32) (mouts : Int32) (nm : Nat) (mfromHour : Int32) (mtoHour : Int32) (ns : Nat) (mfrom : Int32) (mto : Int32) (msort : Int32) (misFault : Int32) (mdeep : Int32) (mcoded : Int32) (mlines : Int32) (nl : Nat) (nc : Nat) (nF : Nat) (np : Nat) (ntr : Nat) (nb : Nat) (mbestCost : Int32) (nso : Nat) (nsi : Nat) (nit : Nat) (nsh : Nat) (nsf : Nat) (nss : Nat) (nrc : Nat) (jr : Nat) (jd : Nat) (mnumber : Int32) (mwhose : Int32) (msize : Int32) (misParted : Int32) (fnrc : Nat → Int32) (hjr : jr ≤ 30) (hjd : jd < 7) : MI l G yX12_bodyFrom cX12_bodyFrom 5 (some .int) 34 0 0 [.ref h0, .int 5, .int 2, .int xx] [(h0, .inr (12, [.ref nw, .ref nk, .int mhasKept, .ref nt, .int mtaped, .ref nr, .int mrowMany, .int mroundOf, .int mroundFrom, .int mouts, .ref nm, .int mfromHour, .int mtoHour, .ref ns, .int mfrom, .int mto, .int msort, .int misFault, .int mdeep, .int mcoded, .int mlines, .ref nl, .ref nc, .ref nF, .ref np, .ref ntr, .ref nb, .int mbestCost, .ref nso, .ref nsi, .ref nit, .ref nsh, .ref nsf, .ref nss, .ref nrc, .int (nI jr), .int (nI jd), .int mnumber, .int mwhose, .int msize, .int misParted])), (nrc, .inl (G.2.1, 30, .inl fnrc))] (fun (r : Int32) (u : Nat × Int32 × (Nat → Int32)) => (True) ∧ (u.1 ≤ 30)) (fun u : Nat × Int32 × (Nat → Int32) => [(h0, .inr (12, [.ref nw, .ref nk, .int mhasKept, .ref nt, .int mtaped, .ref nr, .int mrowMany, .int mroundOf, .int mroundFrom, .int mouts, .ref nm, .int mfromHour, .int mtoHour, .ref ns, .int mfrom, .int mto, .int msort, .int misFault, .int mdeep, .int mcoded, .int mlines, .ref nl, .ref nc, .ref nF, .ref np, .ref ntr, .ref nb, .int mbestCost, .ref nso, .ref nsi, .ref nit, .ref nsh, .ref nsf, .ref nss, .ref nrc, .int (nI u.1), .int (nI jd), .int mnumber, .int mwhose, .int msize, .int u.2.1])), (nrc, .inl (G.2.1, 30, .inl u.2.2))]) := by
  refine MI.start (by decide +kernel) (Nat.le_of_ble_eq_true rfl) ?_
  intro p e s m below meth c A ls hC hK hP hD hS hA hl
  have hl : lv_has ls 5 [(0, .ref h0), (1, .int 5), (2, .int 2), (3, .int xx)] := hl
  obtain ⟨hx, hb, hr, hml, hB, hown, hlocks, hnm⟩ := id hC
  refine lv_iload_n hx hb dX12_bodyFrom_0 rfl (lv_at hl 1 rfl) ?_
  refine lv_istore (lv' := [(4, .int 5), (0, .ref h0), (1, .int 5), (2, .int 2), (3, .int xx)]) hx hb dX12_bodyFrom_1 hl (by decide) rfl (fun ls hl => ?_)
  refine lv_iload hx hb dX12_bodyFrom_3 (lv_at hl 0 rfl) ?_
  refine lv_iload_n hx hb dX12_bodyFrom_5 rfl (lv_at hl 3 rfl) ?_
  refine pS hC hK hl (m_hasOwn52 l G) si_X12_360 rfl rfl (Nat.le_of_ble_eq_true rfl) ⟨Nat.le_of_ble_eq_true rfl, Nat.le_of_ble_eq_true rfl⟩ ⟨by first | exact Nat.le_of_ble_eq_true rfl | exact Nat.zero_le _, by first | exact Nat.le_of_ble_eq_true rfl | exact Nat.zero_le _⟩ dX12_bodyFrom_6 (fun r5907 hr5907 => ?_)
  obtain rfl := hr5907
  refine lv_if_ne (tgt := 22) hx hb dX12_bodyFrom_9 (by decide) (fun _ => ?_) (fun c9 => absurd c9 (by decide))
  refine lv_aload_n hx hb dX12_bodyFrom_22 rfl (lv_at hl 1 rfl) ?_
  refine lv_iload hx hb dX12_bodyFrom_23 (lv_at hl 0 rfl) ?_
  refine lv_iload_n hx hb dX12_bodyFrom_25 rfl (lv_at hl 3 rfl) ?_
  refine lv_iload_n hx hb dX12_bodyFrom_26 rfl (lv_at hl 4 rfl) ?_
  refine iV (wr := []) hC hK hl hP hD hS hA (m_body52 l G h0 xx nw nk mhasKept nt mtaped nr mrowMany mroundOf mroundFrom mouts nm mfromHour mtoHour ns mfrom mto msort misFault mdeep mcoded mlines nl nc nF np ntr nb mbestCost nso nsi nit nsh nsf nss nrc jr jd mnumber mwhose msize misParted fnrc (by omega) (by omega)) si_X12_363 [0, 1] [] rfl rfl (by decide) rfl (by decide) (by decide) rfl rfl rfl rfl rfl (Nat.le_of_ble_eq_true rfl) ⟨Nat.le_of_ble_eq_true rfl, Nat.le_of_ble_eq_true rfl⟩ ⟨Nat.le_of_ble_eq_true rfl, Nat.le_of_ble_eq_true rfl⟩ dX12_bodyFrom_27 (fun r5909 u5910 H locs hr5909 hP hD hS => ?_)
  obtain ⟨jr15911, ip15912, gtrc5913⟩ := u5910
  try dsimp only at hr5909
  have hP : va_P G.1 vwCl [(h0, .inr (12, [.ref nw, .ref nk, .int mhasKept, .ref nt, .int mtaped, .ref nr, .int mrowMany, .int mroundOf, .int mroundFrom, .int mouts, .ref nm, .int mfromHour, .int mtoHour, .ref ns, .int mfrom, .int mto, .int msort, .int misFault, .int mdeep, .int mcoded, .int mlines, .ref nl, .ref nc, .ref nF, .ref np, .ref ntr, .ref nb, .int mbestCost, .ref nso, .ref nsi, .ref nit, .ref nsh, .ref nsf, .ref nss, .ref nrc, .int (nI jr15911), .int (nI jd), .int mnumber, .int mwhose, .int msize, .int ip15912])), (nrc, .inl (G.2.1, 30, .inl gtrc5913))] H := hP
  have hD : va_D A [(h0, .inr (12, [.ref nw, .ref nk, .int mhasKept, .ref nt, .int mtaped, .ref nr, .int mrowMany, .int mroundOf, .int mroundFrom, .int mouts, .ref nm, .int mfromHour, .int mtoHour, .ref ns, .int mfrom, .int mto, .int msort, .int misFault, .int mdeep, .int mcoded, .int mlines, .ref nl, .ref nc, .ref nF, .ref np, .ref ntr, .ref nb, .int mbestCost, .ref nso, .ref nsi, .ref nit, .ref nsh, .ref nsf, .ref nss, .ref nrc, .int (nI jr15911), .int (nI jd), .int mnumber, .int mwhose, .int msize, .int ip15912])), (nrc, .inl (G.2.1, 30, .inl gtrc5913))] := hD
  obtain ⟨hr5909, w5914⟩ := hr5909
  exact RI (v := r5909) hC hP hD hS [0, 1] (jr15911, ip15912, gtrc5913) rfl rfl (by decide) (⟨trivial, by omega⟩) rfl dX12_bodyFrom_30
set_option maxHeartbeats 4000000 in
set_option maxRecDepth 100000 in
theorem m_from12 (l : Launch) (G : GG) (h0 : Nat) (xx : Int32) (nw : Nat) (nk : Nat) (mhasKept : Int32) (nt : Nat) (mtaped : Int32) (nr : Nat) (mrowMany : Int32) (mroundOf : Int32) (mroundFrom : Int32) (mouts : Int32) (nm : Nat) (mfromHour : Int32) (mtoHour : Int32) (ns : Nat) (mfrom : Int32) (mto : Int32) (msort : Int32) (misFault : Int32) (mdeep : Int32) (mcoded : Int32) (mlines : Int32) (nl : Nat) (nc : Nat) (nF : Nat) (np : Nat) (ntr : Nat) (nb : Nat) (mbestCost : Int32) (nso : Nat) (nsi : Nat) (nit : Nat) (nsh : Nat) (nsf : Nat) (nss : Nat) (nrc : Nat) (jr : Nat) (jd : Nat) (mnumber : Int32) (mwhose : Int32) (msize : Int32) (misParted : Int32) (fnrc : Nat → Int32) (hjr : jr ≤ 30) (hjd : jd < 7) : MI l G yX12_bodyFrom cX12_bodyFrom 5 (some .int) 36 0 0 [.ref h0, .int 1, .int 2, .int xx] [(h0, .inr (12, [.ref nw, .ref nk, .int mhasKept, .ref nt, .int mtaped, .ref nr, .int mrowMany, .int mroundOf, .int mroundFrom, .int mouts, .ref nm, .int mfromHour, .int mtoHour, .ref ns, .int mfrom, .int mto, .int msort, .int misFault, .int mdeep, .int mcoded, .int mlines, .ref nl, .ref nc, .ref nF, .ref np, .ref ntr, .ref nb, .int mbestCost, .ref nso, .ref nsi, .ref nit, .ref nsh, .ref nsf, .ref nss, .ref nrc, .int (nI jr), .int (nI jd), .int mnumber, .int mwhose, .int msize, .int misParted])), (nrc, .inl (G.2.1, 30, .inl fnrc))] (fun (r : Int32) (u : Nat × Int32 × (Nat → Int32)) => (True) ∧ (u.1 ≤ 30)) (fun u : Nat × Int32 × (Nat → Int32) => [(h0, .inr (12, [.ref nw, .ref nk, .int mhasKept, .ref nt, .int mtaped, .ref nr, .int mrowMany, .int mroundOf, .int mroundFrom, .int mouts, .ref nm, .int mfromHour, .int mtoHour, .ref ns, .int mfrom, .int mto, .int msort, .int misFault, .int mdeep, .int mcoded, .int mlines, .ref nl, .ref nc, .ref nF, .ref np, .ref ntr, .ref nb, .int mbestCost, .ref nso, .ref nsi, .ref nit, .ref nsh, .ref nsf, .ref nss, .ref nrc, .int (nI u.1), .int (nI jd), .int mnumber, .int mwhose, .int msize, .int u.2.1])), (nrc, .inl (G.2.1, 30, .inl u.2.2))]) := by
  refine MI.start (by decide +kernel) (Nat.le_of_ble_eq_true rfl) ?_
  intro p e s m below meth c A ls hC hK hP hD hS hA hl
  have hl : lv_has ls 5 [(0, .ref h0), (1, .int 1), (2, .int 2), (3, .int xx)] := hl
  obtain ⟨hx, hb, hr, hml, hB, hown, hlocks, hnm⟩ := id hC
  refine lv_iload_n hx hb dX12_bodyFrom_0 rfl (lv_at hl 1 rfl) ?_
  refine lv_istore (lv' := [(4, .int 1), (0, .ref h0), (1, .int 1), (2, .int 2), (3, .int xx)]) hx hb dX12_bodyFrom_1 hl (by decide) rfl (fun ls hl => ?_)
  refine lv_iload hx hb dX12_bodyFrom_3 (lv_at hl 0 rfl) ?_
  refine lv_iload_n hx hb dX12_bodyFrom_5 rfl (lv_at hl 3 rfl) ?_
  refine pS hC hK hl (m_hasOwn12 l G) si_X12_360 rfl rfl (Nat.le_of_ble_eq_true rfl) ⟨Nat.le_of_ble_eq_true rfl, Nat.le_of_ble_eq_true rfl⟩ ⟨by first | exact Nat.le_of_ble_eq_true rfl | exact Nat.zero_le _, by first | exact Nat.le_of_ble_eq_true rfl | exact Nat.zero_le _⟩ dX12_bodyFrom_6 (fun r5915 hr5915 => ?_)
  obtain rfl := hr5915
  refine lv_if_ne (tgt := 22) hx hb dX12_bodyFrom_9 (by decide) (fun c9 => absurd (by decide) c9) (fun _ => ?_)
  refine lv_iload hx hb dX12_bodyFrom_12 (lv_at hl 0 rfl) ?_
  refine pS hC hK hl (m_above1 l G) si_X12_348 rfl rfl (Nat.le_of_ble_eq_true rfl) ⟨Nat.le_of_ble_eq_true rfl, Nat.le_of_ble_eq_true rfl⟩ ⟨by first | exact Nat.le_of_ble_eq_true rfl | exact Nat.zero_le _, by first | exact Nat.le_of_ble_eq_true rfl | exact Nat.zero_le _⟩ dX12_bodyFrom_14 (fun r5917 hr5917 => ?_)
  obtain rfl := hr5917
  refine lv_istore (lv' := [(4, .int 0), (0, .ref h0), (1, .int 1), (2, .int 2), (3, .int xx)]) hx hb dX12_bodyFrom_17 hl (by decide) rfl (fun ls hl => ?_)
  refine lv_goto (tgt := 3) hx hb dX12_bodyFrom_19 (by decide) ?_
  refine lv_iload hx hb dX12_bodyFrom_3 (lv_at hl 0 rfl) ?_
  refine lv_iload_n hx hb dX12_bodyFrom_5 rfl (lv_at hl 3 rfl) ?_
  refine pS hC hK hl (m_hasOwn02 l G) si_X12_360 rfl rfl (Nat.le_of_ble_eq_true rfl) ⟨Nat.le_of_ble_eq_true rfl, Nat.le_of_ble_eq_true rfl⟩ ⟨by first | exact Nat.le_of_ble_eq_true rfl | exact Nat.zero_le _, by first | exact Nat.le_of_ble_eq_true rfl | exact Nat.zero_le _⟩ dX12_bodyFrom_6 (fun r5919 hr5919 => ?_)
  obtain rfl := hr5919
  refine lv_if_ne (tgt := 22) hx hb dX12_bodyFrom_9 (by decide) (fun _ => ?_) (fun c9 => absurd c9 (by decide))
  refine lv_aload_n hx hb dX12_bodyFrom_22 rfl (lv_at hl 1 rfl) ?_
  refine lv_iload hx hb dX12_bodyFrom_23 (lv_at hl 0 rfl) ?_
  refine lv_iload_n hx hb dX12_bodyFrom_25 rfl (lv_at hl 3 rfl) ?_
  refine lv_iload_n hx hb dX12_bodyFrom_26 rfl (lv_at hl 4 rfl) ?_
  refine iV (wr := []) hC hK hl hP hD hS hA (m_body02 l G h0 xx nw nk mhasKept nt mtaped nr mrowMany mroundOf mroundFrom mouts nm mfromHour mtoHour ns mfrom mto msort misFault mdeep mcoded mlines nl nc nF np ntr nb mbestCost nso nsi nit nsh nsf nss nrc jr jd mnumber mwhose msize misParted fnrc (by omega) (by omega)) si_X12_363 [0, 1] [] rfl rfl (by decide) rfl (by decide) (by decide) rfl rfl rfl rfl rfl (Nat.le_of_ble_eq_true rfl) ⟨Nat.le_of_ble_eq_true rfl, Nat.le_of_ble_eq_true rfl⟩ ⟨Nat.le_of_ble_eq_true rfl, Nat.le_of_ble_eq_true rfl⟩ dX12_bodyFrom_27 (fun r5921 u5922 H locs hr5921 hP hD hS => ?_)
  obtain ⟨jr15923, ip15924, gtrc5925⟩ := u5922
  try dsimp only at hr5921
  have hP : va_P G.1 vwCl [(h0, .inr (12, [.ref nw, .ref nk, .int mhasKept, .ref nt, .int mtaped, .ref nr, .int mrowMany, .int mroundOf, .int mroundFrom, .int mouts, .ref nm, .int mfromHour, .int mtoHour, .ref ns, .int mfrom, .int mto, .int msort, .int misFault, .int mdeep, .int mcoded, .int mlines, .ref nl, .ref nc, .ref nF, .ref np, .ref ntr, .ref nb, .int mbestCost, .ref nso, .ref nsi, .ref nit, .ref nsh, .ref nsf, .ref nss, .ref nrc, .int (nI jr15923), .int (nI jd), .int mnumber, .int mwhose, .int msize, .int ip15924])), (nrc, .inl (G.2.1, 30, .inl gtrc5925))] H := hP
  have hD : va_D A [(h0, .inr (12, [.ref nw, .ref nk, .int mhasKept, .ref nt, .int mtaped, .ref nr, .int mrowMany, .int mroundOf, .int mroundFrom, .int mouts, .ref nm, .int mfromHour, .int mtoHour, .ref ns, .int mfrom, .int mto, .int msort, .int misFault, .int mdeep, .int mcoded, .int mlines, .ref nl, .ref nc, .ref nF, .ref np, .ref ntr, .ref nb, .int mbestCost, .ref nso, .ref nsi, .ref nit, .ref nsh, .ref nsf, .ref nss, .ref nrc, .int (nI jr15923), .int (nI jd), .int mnumber, .int mwhose, .int msize, .int ip15924])), (nrc, .inl (G.2.1, 30, .inl gtrc5925))] := hD
  obtain ⟨hr5921, w5926⟩ := hr5921
  exact RI (v := r5921) hC hP hD hS [0, 1] (jr15923, ip15924, gtrc5925) rfl rfl (by decide) (⟨trivial, by omega⟩) rfl dX12_bodyFrom_30
set_option maxHeartbeats 4000000 in
set_option maxRecDepth 100000 in
theorem m_from32 (l : Launch) (G : GG) (h0 : Nat) (xx : Int32) (nw : Nat) (nk : Nat) (mhasKept : Int32) (nt : Nat) (mtaped : Int32) (nr : Nat) (mrowMany : Int32) (mroundOf : Int32) (mroundFrom : Int32) (mouts : Int32) (nm : Nat) (mfromHour : Int32) (mtoHour : Int32) (ns : Nat) (mfrom : Int32) (mto : Int32) (msort : Int32) (misFault : Int32) (mdeep : Int32) (mcoded : Int32) (mlines : Int32) (nl : Nat) (nc : Nat) (nF : Nat) (np : Nat) (ntr : Nat) (nb : Nat) (mbestCost : Int32) (nso : Nat) (nsi : Nat) (nit : Nat) (nsh : Nat) (nsf : Nat) (nss : Nat) (nrc : Nat) (jr : Nat) (jd : Nat) (mnumber : Int32) (mwhose : Int32) (msize : Int32) (misParted : Int32) (fnrc : Nat → Int32) (hjr : jr ≤ 30) (hjd : jd < 7) : MI l G yX12_bodyFrom cX12_bodyFrom 5 (some .int) 36 0 0 [.ref h0, .int 3, .int 2, .int xx] [(h0, .inr (12, [.ref nw, .ref nk, .int mhasKept, .ref nt, .int mtaped, .ref nr, .int mrowMany, .int mroundOf, .int mroundFrom, .int mouts, .ref nm, .int mfromHour, .int mtoHour, .ref ns, .int mfrom, .int mto, .int msort, .int misFault, .int mdeep, .int mcoded, .int mlines, .ref nl, .ref nc, .ref nF, .ref np, .ref ntr, .ref nb, .int mbestCost, .ref nso, .ref nsi, .ref nit, .ref nsh, .ref nsf, .ref nss, .ref nrc, .int (nI jr), .int (nI jd), .int mnumber, .int mwhose, .int msize, .int misParted])), (nrc, .inl (G.2.1, 30, .inl fnrc))] (fun (r : Int32) (u : Nat × Int32 × (Nat → Int32)) => (True) ∧ (u.1 ≤ 30)) (fun u : Nat × Int32 × (Nat → Int32) => [(h0, .inr (12, [.ref nw, .ref nk, .int mhasKept, .ref nt, .int mtaped, .ref nr, .int mrowMany, .int mroundOf, .int mroundFrom, .int mouts, .ref nm, .int mfromHour, .int mtoHour, .ref ns, .int mfrom, .int mto, .int msort, .int misFault, .int mdeep, .int mcoded, .int mlines, .ref nl, .ref nc, .ref nF, .ref np, .ref ntr, .ref nb, .int mbestCost, .ref nso, .ref nsi, .ref nit, .ref nsh, .ref nsf, .ref nss, .ref nrc, .int (nI u.1), .int (nI jd), .int mnumber, .int mwhose, .int msize, .int u.2.1])), (nrc, .inl (G.2.1, 30, .inl u.2.2))]) := by
  refine MI.start (by decide +kernel) (Nat.le_of_ble_eq_true rfl) ?_
  intro p e s m below meth c A ls hC hK hP hD hS hA hl
  have hl : lv_has ls 5 [(0, .ref h0), (1, .int 3), (2, .int 2), (3, .int xx)] := hl
  obtain ⟨hx, hb, hr, hml, hB, hown, hlocks, hnm⟩ := id hC
  refine lv_iload_n hx hb dX12_bodyFrom_0 rfl (lv_at hl 1 rfl) ?_
  refine lv_istore (lv' := [(4, .int 3), (0, .ref h0), (1, .int 3), (2, .int 2), (3, .int xx)]) hx hb dX12_bodyFrom_1 hl (by decide) rfl (fun ls hl => ?_)
  refine lv_iload hx hb dX12_bodyFrom_3 (lv_at hl 0 rfl) ?_
  refine lv_iload_n hx hb dX12_bodyFrom_5 rfl (lv_at hl 3 rfl) ?_
  refine pS hC hK hl (m_hasOwn32 l G) si_X12_360 rfl rfl (Nat.le_of_ble_eq_true rfl) ⟨Nat.le_of_ble_eq_true rfl, Nat.le_of_ble_eq_true rfl⟩ ⟨by first | exact Nat.le_of_ble_eq_true rfl | exact Nat.zero_le _, by first | exact Nat.le_of_ble_eq_true rfl | exact Nat.zero_le _⟩ dX12_bodyFrom_6 (fun r5927 hr5927 => ?_)
  obtain rfl := hr5927
  refine lv_if_ne (tgt := 22) hx hb dX12_bodyFrom_9 (by decide) (fun c9 => absurd (by decide) c9) (fun _ => ?_)
  refine lv_iload hx hb dX12_bodyFrom_12 (lv_at hl 0 rfl) ?_
  refine pS hC hK hl (m_above3 l G) si_X12_348 rfl rfl (Nat.le_of_ble_eq_true rfl) ⟨Nat.le_of_ble_eq_true rfl, Nat.le_of_ble_eq_true rfl⟩ ⟨by first | exact Nat.le_of_ble_eq_true rfl | exact Nat.zero_le _, by first | exact Nat.le_of_ble_eq_true rfl | exact Nat.zero_le _⟩ dX12_bodyFrom_14 (fun r5929 hr5929 => ?_)
  obtain rfl := hr5929
  refine lv_istore (lv' := [(4, .int 1), (0, .ref h0), (1, .int 3), (2, .int 2), (3, .int xx)]) hx hb dX12_bodyFrom_17 hl (by decide) rfl (fun ls hl => ?_)
  refine lv_goto (tgt := 3) hx hb dX12_bodyFrom_19 (by decide) ?_
  refine lv_iload hx hb dX12_bodyFrom_3 (lv_at hl 0 rfl) ?_
  refine lv_iload_n hx hb dX12_bodyFrom_5 rfl (lv_at hl 3 rfl) ?_
  refine pS hC hK hl (m_hasOwn12 l G) si_X12_360 rfl rfl (Nat.le_of_ble_eq_true rfl) ⟨Nat.le_of_ble_eq_true rfl, Nat.le_of_ble_eq_true rfl⟩ ⟨by first | exact Nat.le_of_ble_eq_true rfl | exact Nat.zero_le _, by first | exact Nat.le_of_ble_eq_true rfl | exact Nat.zero_le _⟩ dX12_bodyFrom_6 (fun r5931 hr5931 => ?_)
  obtain rfl := hr5931
  refine lv_if_ne (tgt := 22) hx hb dX12_bodyFrom_9 (by decide) (fun c9 => absurd (by decide) c9) (fun _ => ?_)
  refine lv_iload hx hb dX12_bodyFrom_12 (lv_at hl 0 rfl) ?_
  refine pS hC hK hl (m_above1 l G) si_X12_348 rfl rfl (Nat.le_of_ble_eq_true rfl) ⟨Nat.le_of_ble_eq_true rfl, Nat.le_of_ble_eq_true rfl⟩ ⟨by first | exact Nat.le_of_ble_eq_true rfl | exact Nat.zero_le _, by first | exact Nat.le_of_ble_eq_true rfl | exact Nat.zero_le _⟩ dX12_bodyFrom_14 (fun r5933 hr5933 => ?_)
  obtain rfl := hr5933
  refine lv_istore (lv' := [(4, .int 0), (0, .ref h0), (1, .int 3), (2, .int 2), (3, .int xx)]) hx hb dX12_bodyFrom_17 hl (by decide) rfl (fun ls hl => ?_)
  refine lv_goto (tgt := 3) hx hb dX12_bodyFrom_19 (by decide) ?_
  refine lv_iload hx hb dX12_bodyFrom_3 (lv_at hl 0 rfl) ?_
  refine lv_iload_n hx hb dX12_bodyFrom_5 rfl (lv_at hl 3 rfl) ?_
  refine pS hC hK hl (m_hasOwn02 l G) si_X12_360 rfl rfl (Nat.le_of_ble_eq_true rfl) ⟨Nat.le_of_ble_eq_true rfl, Nat.le_of_ble_eq_true rfl⟩ ⟨by first | exact Nat.le_of_ble_eq_true rfl | exact Nat.zero_le _, by first | exact Nat.le_of_ble_eq_true rfl | exact Nat.zero_le _⟩ dX12_bodyFrom_6 (fun r5935 hr5935 => ?_)
  obtain rfl := hr5935
  refine lv_if_ne (tgt := 22) hx hb dX12_bodyFrom_9 (by decide) (fun _ => ?_) (fun c9 => absurd c9 (by decide))
  refine lv_aload_n hx hb dX12_bodyFrom_22 rfl (lv_at hl 1 rfl) ?_
  refine lv_iload hx hb dX12_bodyFrom_23 (lv_at hl 0 rfl) ?_
  refine lv_iload_n hx hb dX12_bodyFrom_25 rfl (lv_at hl 3 rfl) ?_
  refine lv_iload_n hx hb dX12_bodyFrom_26 rfl (lv_at hl 4 rfl) ?_
  refine iV (wr := []) hC hK hl hP hD hS hA (m_body02 l G h0 xx nw nk mhasKept nt mtaped nr mrowMany mroundOf mroundFrom mouts nm mfromHour mtoHour ns mfrom mto msort misFault mdeep mcoded mlines nl nc nF np ntr nb mbestCost nso nsi nit nsh nsf nss nrc jr jd mnumber mwhose msize misParted fnrc (by omega) (by omega)) si_X12_363 [0, 1] [] rfl rfl (by decide) rfl (by decide) (by decide) rfl rfl rfl rfl rfl (Nat.le_of_ble_eq_true rfl) ⟨Nat.le_of_ble_eq_true rfl, Nat.le_of_ble_eq_true rfl⟩ ⟨Nat.le_of_ble_eq_true rfl, Nat.le_of_ble_eq_true rfl⟩ dX12_bodyFrom_27 (fun r5937 u5938 H locs hr5937 hP hD hS => ?_)
  obtain ⟨jr15939, ip15940, gtrc5941⟩ := u5938
  try dsimp only at hr5937
  have hP : va_P G.1 vwCl [(h0, .inr (12, [.ref nw, .ref nk, .int mhasKept, .ref nt, .int mtaped, .ref nr, .int mrowMany, .int mroundOf, .int mroundFrom, .int mouts, .ref nm, .int mfromHour, .int mtoHour, .ref ns, .int mfrom, .int mto, .int msort, .int misFault, .int mdeep, .int mcoded, .int mlines, .ref nl, .ref nc, .ref nF, .ref np, .ref ntr, .ref nb, .int mbestCost, .ref nso, .ref nsi, .ref nit, .ref nsh, .ref nsf, .ref nss, .ref nrc, .int (nI jr15939), .int (nI jd), .int mnumber, .int mwhose, .int msize, .int ip15940])), (nrc, .inl (G.2.1, 30, .inl gtrc5941))] H := hP
  have hD : va_D A [(h0, .inr (12, [.ref nw, .ref nk, .int mhasKept, .ref nt, .int mtaped, .ref nr, .int mrowMany, .int mroundOf, .int mroundFrom, .int mouts, .ref nm, .int mfromHour, .int mtoHour, .ref ns, .int mfrom, .int mto, .int msort, .int misFault, .int mdeep, .int mcoded, .int mlines, .ref nl, .ref nc, .ref nF, .ref np, .ref ntr, .ref nb, .int mbestCost, .ref nso, .ref nsi, .ref nit, .ref nsh, .ref nsf, .ref nss, .ref nrc, .int (nI jr15939), .int (nI jd), .int mnumber, .int mwhose, .int msize, .int ip15940])), (nrc, .inl (G.2.1, 30, .inl gtrc5941))] := hD
  obtain ⟨hr5937, w5942⟩ := hr5937
  exact RI (v := r5937) hC hP hD hS [0, 1] (jr15939, ip15940, gtrc5941) rfl rfl (by decide) (⟨trivial, by omega⟩) rfl dX12_bodyFrom_30
set_option maxHeartbeats 4000000 in
set_option maxRecDepth 100000 in
theorem m_from62 (l : Launch) (G : GG) (h0 : Nat) (xx : Int32) (nw : Nat) (nk : Nat) (mhasKept : Int32) (nt : Nat) (mtaped : Int32) (nr : Nat) (mrowMany : Int32) (mroundOf : Int32) (mroundFrom : Int32) (mouts : Int32) (nm : Nat) (mfromHour : Int32) (mtoHour : Int32) (ns : Nat) (mfrom : Int32) (mto : Int32) (msort : Int32) (misFault : Int32) (mdeep : Int32) (mcoded : Int32) (mlines : Int32) (nl : Nat) (nc : Nat) (nF : Nat) (np : Nat) (ntr : Nat) (nb : Nat) (mbestCost : Int32) (nso : Nat) (nsi : Nat) (nit : Nat) (nsh : Nat) (nsf : Nat) (nss : Nat) (nrc : Nat) (jr : Nat) (jd : Nat) (mnumber : Int32) (mwhose : Int32) (msize : Int32) (misParted : Int32) (fnrc : Nat → Int32) (hjr : jr ≤ 30) (hjd : jd < 7) : MI l G yX12_bodyFrom cX12_bodyFrom 5 (some .int) 36 0 0 [.ref h0, .int 6, .int 2, .int xx] [(h0, .inr (12, [.ref nw, .ref nk, .int mhasKept, .ref nt, .int mtaped, .ref nr, .int mrowMany, .int mroundOf, .int mroundFrom, .int mouts, .ref nm, .int mfromHour, .int mtoHour, .ref ns, .int mfrom, .int mto, .int msort, .int misFault, .int mdeep, .int mcoded, .int mlines, .ref nl, .ref nc, .ref nF, .ref np, .ref ntr, .ref nb, .int mbestCost, .ref nso, .ref nsi, .ref nit, .ref nsh, .ref nsf, .ref nss, .ref nrc, .int (nI jr), .int (nI jd), .int mnumber, .int mwhose, .int msize, .int misParted])), (nrc, .inl (G.2.1, 30, .inl fnrc))] (fun (r : Int32) (u : Nat × Int32 × (Nat → Int32)) => (True) ∧ (u.1 ≤ 30)) (fun u : Nat × Int32 × (Nat → Int32) => [(h0, .inr (12, [.ref nw, .ref nk, .int mhasKept, .ref nt, .int mtaped, .ref nr, .int mrowMany, .int mroundOf, .int mroundFrom, .int mouts, .ref nm, .int mfromHour, .int mtoHour, .ref ns, .int mfrom, .int mto, .int msort, .int misFault, .int mdeep, .int mcoded, .int mlines, .ref nl, .ref nc, .ref nF, .ref np, .ref ntr, .ref nb, .int mbestCost, .ref nso, .ref nsi, .ref nit, .ref nsh, .ref nsf, .ref nss, .ref nrc, .int (nI u.1), .int (nI jd), .int mnumber, .int mwhose, .int msize, .int u.2.1])), (nrc, .inl (G.2.1, 30, .inl u.2.2))]) := by
  refine MI.start (by decide +kernel) (Nat.le_of_ble_eq_true rfl) ?_
  intro p e s m below meth c A ls hC hK hP hD hS hA hl
  have hl : lv_has ls 5 [(0, .ref h0), (1, .int 6), (2, .int 2), (3, .int xx)] := hl
  obtain ⟨hx, hb, hr, hml, hB, hown, hlocks, hnm⟩ := id hC
  refine lv_iload_n hx hb dX12_bodyFrom_0 rfl (lv_at hl 1 rfl) ?_
  refine lv_istore (lv' := [(4, .int 6), (0, .ref h0), (1, .int 6), (2, .int 2), (3, .int xx)]) hx hb dX12_bodyFrom_1 hl (by decide) rfl (fun ls hl => ?_)
  refine lv_iload hx hb dX12_bodyFrom_3 (lv_at hl 0 rfl) ?_
  refine lv_iload_n hx hb dX12_bodyFrom_5 rfl (lv_at hl 3 rfl) ?_
  refine pS hC hK hl (m_hasOwn62 l G) si_X12_360 rfl rfl (Nat.le_of_ble_eq_true rfl) ⟨Nat.le_of_ble_eq_true rfl, Nat.le_of_ble_eq_true rfl⟩ ⟨by first | exact Nat.le_of_ble_eq_true rfl | exact Nat.zero_le _, by first | exact Nat.le_of_ble_eq_true rfl | exact Nat.zero_le _⟩ dX12_bodyFrom_6 (fun r5943 hr5943 => ?_)
  obtain rfl := hr5943
  refine lv_if_ne (tgt := 22) hx hb dX12_bodyFrom_9 (by decide) (fun c9 => absurd (by decide) c9) (fun _ => ?_)
  refine lv_iload hx hb dX12_bodyFrom_12 (lv_at hl 0 rfl) ?_
  refine pS hC hK hl (m_above6 l G) si_X12_348 rfl rfl (Nat.le_of_ble_eq_true rfl) ⟨Nat.le_of_ble_eq_true rfl, Nat.le_of_ble_eq_true rfl⟩ ⟨by first | exact Nat.le_of_ble_eq_true rfl | exact Nat.zero_le _, by first | exact Nat.le_of_ble_eq_true rfl | exact Nat.zero_le _⟩ dX12_bodyFrom_14 (fun r5945 hr5945 => ?_)
  obtain rfl := hr5945
  refine lv_istore (lv' := [(4, .int 0), (0, .ref h0), (1, .int 6), (2, .int 2), (3, .int xx)]) hx hb dX12_bodyFrom_17 hl (by decide) rfl (fun ls hl => ?_)
  refine lv_goto (tgt := 3) hx hb dX12_bodyFrom_19 (by decide) ?_
  refine lv_iload hx hb dX12_bodyFrom_3 (lv_at hl 0 rfl) ?_
  refine lv_iload_n hx hb dX12_bodyFrom_5 rfl (lv_at hl 3 rfl) ?_
  refine pS hC hK hl (m_hasOwn02 l G) si_X12_360 rfl rfl (Nat.le_of_ble_eq_true rfl) ⟨Nat.le_of_ble_eq_true rfl, Nat.le_of_ble_eq_true rfl⟩ ⟨by first | exact Nat.le_of_ble_eq_true rfl | exact Nat.zero_le _, by first | exact Nat.le_of_ble_eq_true rfl | exact Nat.zero_le _⟩ dX12_bodyFrom_6 (fun r5947 hr5947 => ?_)
  obtain rfl := hr5947
  refine lv_if_ne (tgt := 22) hx hb dX12_bodyFrom_9 (by decide) (fun _ => ?_) (fun c9 => absurd c9 (by decide))
  refine lv_aload_n hx hb dX12_bodyFrom_22 rfl (lv_at hl 1 rfl) ?_
  refine lv_iload hx hb dX12_bodyFrom_23 (lv_at hl 0 rfl) ?_
  refine lv_iload_n hx hb dX12_bodyFrom_25 rfl (lv_at hl 3 rfl) ?_
  refine lv_iload_n hx hb dX12_bodyFrom_26 rfl (lv_at hl 4 rfl) ?_
  refine iV (wr := []) hC hK hl hP hD hS hA (m_body02 l G h0 xx nw nk mhasKept nt mtaped nr mrowMany mroundOf mroundFrom mouts nm mfromHour mtoHour ns mfrom mto msort misFault mdeep mcoded mlines nl nc nF np ntr nb mbestCost nso nsi nit nsh nsf nss nrc jr jd mnumber mwhose msize misParted fnrc (by omega) (by omega)) si_X12_363 [0, 1] [] rfl rfl (by decide) rfl (by decide) (by decide) rfl rfl rfl rfl rfl (Nat.le_of_ble_eq_true rfl) ⟨Nat.le_of_ble_eq_true rfl, Nat.le_of_ble_eq_true rfl⟩ ⟨Nat.le_of_ble_eq_true rfl, Nat.le_of_ble_eq_true rfl⟩ dX12_bodyFrom_27 (fun r5949 u5950 H locs hr5949 hP hD hS => ?_)
  obtain ⟨jr15951, ip15952, gtrc5953⟩ := u5950
  try dsimp only at hr5949
  have hP : va_P G.1 vwCl [(h0, .inr (12, [.ref nw, .ref nk, .int mhasKept, .ref nt, .int mtaped, .ref nr, .int mrowMany, .int mroundOf, .int mroundFrom, .int mouts, .ref nm, .int mfromHour, .int mtoHour, .ref ns, .int mfrom, .int mto, .int msort, .int misFault, .int mdeep, .int mcoded, .int mlines, .ref nl, .ref nc, .ref nF, .ref np, .ref ntr, .ref nb, .int mbestCost, .ref nso, .ref nsi, .ref nit, .ref nsh, .ref nsf, .ref nss, .ref nrc, .int (nI jr15951), .int (nI jd), .int mnumber, .int mwhose, .int msize, .int ip15952])), (nrc, .inl (G.2.1, 30, .inl gtrc5953))] H := hP
  have hD : va_D A [(h0, .inr (12, [.ref nw, .ref nk, .int mhasKept, .ref nt, .int mtaped, .ref nr, .int mrowMany, .int mroundOf, .int mroundFrom, .int mouts, .ref nm, .int mfromHour, .int mtoHour, .ref ns, .int mfrom, .int mto, .int msort, .int misFault, .int mdeep, .int mcoded, .int mlines, .ref nl, .ref nc, .ref nF, .ref np, .ref ntr, .ref nb, .int mbestCost, .ref nso, .ref nsi, .ref nit, .ref nsh, .ref nsf, .ref nss, .ref nrc, .int (nI jr15951), .int (nI jd), .int mnumber, .int mwhose, .int msize, .int ip15952])), (nrc, .inl (G.2.1, 30, .inl gtrc5953))] := hD
  obtain ⟨hr5949, w5954⟩ := hr5949
  exact RI (v := r5949) hC hP hD hS [0, 1] (jr15951, ip15952, gtrc5953) rfl rfl (by decide) (⟨trivial, by omega⟩) rfl dX12_bodyFrom_30
set_option maxHeartbeats 4000000 in
set_option maxRecDepth 100000 in
theorem m_dealt2 (l : Launch) (G : GG) (h0 : Nat) (xx : Int32) (nw : Nat) (nk : Nat) (mhasKept : Int32) (nt : Nat) (mtaped : Int32) (nr : Nat) (mrowMany : Int32) (mroundOf : Int32) (mroundFrom : Int32) (mouts : Int32) (nm : Nat) (mfromHour : Int32) (mtoHour : Int32) (ns : Nat) (mfrom : Int32) (mto : Int32) (msort : Int32) (misFault : Int32) (mdeep : Int32) (mcoded : Int32) (mlines : Int32) (nl : Nat) (nc : Nat) (nF : Nat) (np : Nat) (ntr : Nat) (nb : Nat) (mbestCost : Int32) (nso : Nat) (nsi : Nat) (nit : Nat) (nsh : Nat) (nsf : Nat) (nss : Nat) (nrc : Nat) (jr : Nat) (jd : Nat) (mnumber : Int32) (mwhose : Int32) (msize : Int32) (misParted : Int32) (fnrc : Nat → Int32) (hjr : jr ≤ 30) (hjd : jd < 7) : MI l G yX12_dealt cX12_dealt 3 (some .int) 38 0 0 [.ref h0, .int 2, .int xx] [(h0, .inr (12, [.ref nw, .ref nk, .int mhasKept, .ref nt, .int mtaped, .ref nr, .int mrowMany, .int mroundOf, .int mroundFrom, .int mouts, .ref nm, .int mfromHour, .int mtoHour, .ref ns, .int mfrom, .int mto, .int msort, .int misFault, .int mdeep, .int mcoded, .int mlines, .ref nl, .ref nc, .ref nF, .ref np, .ref ntr, .ref nb, .int mbestCost, .ref nso, .ref nsi, .ref nit, .ref nsh, .ref nsf, .ref nss, .ref nrc, .int (nI jr), .int (nI jd), .int mnumber, .int mwhose, .int msize, .int misParted])), (nrc, .inl (G.2.1, 30, .inl fnrc))] (fun (r : Int32) (u : Nat × Int32 × (Nat → Int32)) => (True) ∧ (u.1 ≤ 30)) (fun u : Nat × Int32 × (Nat → Int32) => [(h0, .inr (12, [.ref nw, .ref nk, .int mhasKept, .ref nt, .int mtaped, .ref nr, .int mrowMany, .int mroundOf, .int mroundFrom, .int mouts, .ref nm, .int mfromHour, .int mtoHour, .ref ns, .int mfrom, .int mto, .int msort, .int misFault, .int mdeep, .int mcoded, .int mlines, .ref nl, .ref nc, .ref nF, .ref np, .ref ntr, .ref nb, .int mbestCost, .ref nso, .ref nsi, .ref nit, .ref nsh, .ref nsf, .ref nss, .ref nrc, .int (nI u.1), .int (nI jd), .int mnumber, .int mwhose, .int msize, .int u.2.1])), (nrc, .inl (G.2.1, 30, .inl u.2.2))]) := by
  refine MI.start (by decide +kernel) (Nat.le_of_ble_eq_true rfl) ?_
  intro p e s m below meth c A ls hC hK hP hD hS hA hl
  have hl : lv_has ls 3 [(0, .ref h0), (1, .int 2), (2, .int xx)] := hl
  obtain ⟨hx, hb, hr, hml, hB, hown, hlocks, hnm⟩ := id hC
  refine lv_aload_n hx hb dX12_dealt_0 rfl (lv_at hl 0 rfl) ?_
  refine lv_aload_n hx hb dX12_dealt_1 rfl (lv_at hl 0 rfl) ?_
  refine gf_X12_354 hC rfl hK hP 0 rfl rfl dX12_dealt_2 ?_
  refine lv_iload_n hx hb dX12_dealt_5 rfl (lv_at hl 1 rfl) ?_
  refine lv_iload_n hx hb dX12_dealt_6 rfl (lv_at hl 2 rfl) ?_
  rcases (show jd = 0 ∨ jd = 1 ∨ jd = 2 ∨ jd = 3 ∨ jd = 4 ∨ jd = 5 ∨ jd = 6 by omega) with rfl | rfl | rfl | rfl | rfl | rfl | rfl
  · refine iV (wr := []) hC hK hl hP hD hS hA (m_from02 l G h0 xx nw nk mhasKept nt mtaped nr mrowMany mroundOf mroundFrom mouts nm mfromHour mtoHour ns mfrom mto msort misFault mdeep mcoded mlines nl nc nF np ntr nb mbestCost nso nsi nit nsh nsf nss nrc jr 0 mnumber mwhose msize misParted fnrc (by omega) (by omega)) si_X12_357 [0, 1] [] rfl rfl (by decide) rfl (by decide) (by decide) rfl rfl rfl rfl rfl (Nat.le_of_ble_eq_true rfl) ⟨Nat.le_of_ble_eq_true rfl, Nat.le_of_ble_eq_true rfl⟩ ⟨Nat.le_of_ble_eq_true rfl, Nat.le_of_ble_eq_true rfl⟩ dX12_dealt_7 (fun r5955 u5956 H locs hr5955 hP hD hS => ?_)
    obtain ⟨jr15957, ip15958, gtrc5959⟩ := u5956
    try dsimp only at hr5955
    have hP : va_P G.1 vwCl [(h0, .inr (12, [.ref nw, .ref nk, .int mhasKept, .ref nt, .int mtaped, .ref nr, .int mrowMany, .int mroundOf, .int mroundFrom, .int mouts, .ref nm, .int mfromHour, .int mtoHour, .ref ns, .int mfrom, .int mto, .int msort, .int misFault, .int mdeep, .int mcoded, .int mlines, .ref nl, .ref nc, .ref nF, .ref np, .ref ntr, .ref nb, .int mbestCost, .ref nso, .ref nsi, .ref nit, .ref nsh, .ref nsf, .ref nss, .ref nrc, .int (nI jr15957), .int 0, .int mnumber, .int mwhose, .int msize, .int ip15958])), (nrc, .inl (G.2.1, 30, .inl gtrc5959))] H := hP
    have hD : va_D A [(h0, .inr (12, [.ref nw, .ref nk, .int mhasKept, .ref nt, .int mtaped, .ref nr, .int mrowMany, .int mroundOf, .int mroundFrom, .int mouts, .ref nm, .int mfromHour, .int mtoHour, .ref ns, .int mfrom, .int mto, .int msort, .int misFault, .int mdeep, .int mcoded, .int mlines, .ref nl, .ref nc, .ref nF, .ref np, .ref ntr, .ref nb, .int mbestCost, .ref nso, .ref nsi, .ref nit, .ref nsh, .ref nsf, .ref nss, .ref nrc, .int (nI jr15957), .int 0, .int mnumber, .int mwhose, .int msize, .int ip15958])), (nrc, .inl (G.2.1, 30, .inl gtrc5959))] := hD
    obtain ⟨hr5955, w5960⟩ := hr5955
    exact RI (v := r5955) hC hP hD hS [0, 1] (jr15957, ip15958, gtrc5959) rfl rfl (by decide) (⟨trivial, by omega⟩) rfl dX12_dealt_10
  · refine iV (wr := []) hC hK hl hP hD hS hA (m_from12 l G h0 xx nw nk mhasKept nt mtaped nr mrowMany mroundOf mroundFrom mouts nm mfromHour mtoHour ns mfrom mto msort misFault mdeep mcoded mlines nl nc nF np ntr nb mbestCost nso nsi nit nsh nsf nss nrc jr 1 mnumber mwhose msize misParted fnrc (by omega) (by omega)) si_X12_357 [0, 1] [] rfl rfl (by decide) rfl (by decide) (by decide) rfl rfl rfl rfl rfl (Nat.le_of_ble_eq_true rfl) ⟨Nat.le_of_ble_eq_true rfl, Nat.le_of_ble_eq_true rfl⟩ ⟨Nat.le_of_ble_eq_true rfl, Nat.le_of_ble_eq_true rfl⟩ dX12_dealt_7 (fun r5961 u5962 H locs hr5961 hP hD hS => ?_)
    obtain ⟨jr15963, ip15964, gtrc5965⟩ := u5962
    try dsimp only at hr5961
    have hP : va_P G.1 vwCl [(h0, .inr (12, [.ref nw, .ref nk, .int mhasKept, .ref nt, .int mtaped, .ref nr, .int mrowMany, .int mroundOf, .int mroundFrom, .int mouts, .ref nm, .int mfromHour, .int mtoHour, .ref ns, .int mfrom, .int mto, .int msort, .int misFault, .int mdeep, .int mcoded, .int mlines, .ref nl, .ref nc, .ref nF, .ref np, .ref ntr, .ref nb, .int mbestCost, .ref nso, .ref nsi, .ref nit, .ref nsh, .ref nsf, .ref nss, .ref nrc, .int (nI jr15963), .int 1, .int mnumber, .int mwhose, .int msize, .int ip15964])), (nrc, .inl (G.2.1, 30, .inl gtrc5965))] H := hP
    have hD : va_D A [(h0, .inr (12, [.ref nw, .ref nk, .int mhasKept, .ref nt, .int mtaped, .ref nr, .int mrowMany, .int mroundOf, .int mroundFrom, .int mouts, .ref nm, .int mfromHour, .int mtoHour, .ref ns, .int mfrom, .int mto, .int msort, .int misFault, .int mdeep, .int mcoded, .int mlines, .ref nl, .ref nc, .ref nF, .ref np, .ref ntr, .ref nb, .int mbestCost, .ref nso, .ref nsi, .ref nit, .ref nsh, .ref nsf, .ref nss, .ref nrc, .int (nI jr15963), .int 1, .int mnumber, .int mwhose, .int msize, .int ip15964])), (nrc, .inl (G.2.1, 30, .inl gtrc5965))] := hD
    obtain ⟨hr5961, w5966⟩ := hr5961
    exact RI (v := r5961) hC hP hD hS [0, 1] (jr15963, ip15964, gtrc5965) rfl rfl (by decide) (⟨trivial, by omega⟩) rfl dX12_dealt_10
  · refine iV (wr := []) hC hK hl hP hD hS hA (m_from22 l G h0 xx nw nk mhasKept nt mtaped nr mrowMany mroundOf mroundFrom mouts nm mfromHour mtoHour ns mfrom mto msort misFault mdeep mcoded mlines nl nc nF np ntr nb mbestCost nso nsi nit nsh nsf nss nrc jr 2 mnumber mwhose msize misParted fnrc (by omega) (by omega)) si_X12_357 [0, 1] [] rfl rfl (by decide) rfl (by decide) (by decide) rfl rfl rfl rfl rfl (Nat.le_of_ble_eq_true rfl) ⟨Nat.le_of_ble_eq_true rfl, Nat.le_of_ble_eq_true rfl⟩ ⟨Nat.le_of_ble_eq_true rfl, Nat.le_of_ble_eq_true rfl⟩ dX12_dealt_7 (fun r5967 u5968 H locs hr5967 hP hD hS => ?_)
    obtain ⟨jr15969, ip15970, gtrc5971⟩ := u5968
    try dsimp only at hr5967
    have hP : va_P G.1 vwCl [(h0, .inr (12, [.ref nw, .ref nk, .int mhasKept, .ref nt, .int mtaped, .ref nr, .int mrowMany, .int mroundOf, .int mroundFrom, .int mouts, .ref nm, .int mfromHour, .int mtoHour, .ref ns, .int mfrom, .int mto, .int msort, .int misFault, .int mdeep, .int mcoded, .int mlines, .ref nl, .ref nc, .ref nF, .ref np, .ref ntr, .ref nb, .int mbestCost, .ref nso, .ref nsi, .ref nit, .ref nsh, .ref nsf, .ref nss, .ref nrc, .int (nI jr15969), .int 2, .int mnumber, .int mwhose, .int msize, .int ip15970])), (nrc, .inl (G.2.1, 30, .inl gtrc5971))] H := hP
    have hD : va_D A [(h0, .inr (12, [.ref nw, .ref nk, .int mhasKept, .ref nt, .int mtaped, .ref nr, .int mrowMany, .int mroundOf, .int mroundFrom, .int mouts, .ref nm, .int mfromHour, .int mtoHour, .ref ns, .int mfrom, .int mto, .int msort, .int misFault, .int mdeep, .int mcoded, .int mlines, .ref nl, .ref nc, .ref nF, .ref np, .ref ntr, .ref nb, .int mbestCost, .ref nso, .ref nsi, .ref nit, .ref nsh, .ref nsf, .ref nss, .ref nrc, .int (nI jr15969), .int 2, .int mnumber, .int mwhose, .int msize, .int ip15970])), (nrc, .inl (G.2.1, 30, .inl gtrc5971))] := hD
    obtain ⟨hr5967, w5972⟩ := hr5967
    exact RI (v := r5967) hC hP hD hS [0, 1] (jr15969, ip15970, gtrc5971) rfl rfl (by decide) (⟨trivial, by omega⟩) rfl dX12_dealt_10
  · refine iV (wr := []) hC hK hl hP hD hS hA (m_from32 l G h0 xx nw nk mhasKept nt mtaped nr mrowMany mroundOf mroundFrom mouts nm mfromHour mtoHour ns mfrom mto msort misFault mdeep mcoded mlines nl nc nF np ntr nb mbestCost nso nsi nit nsh nsf nss nrc jr 3 mnumber mwhose msize misParted fnrc (by omega) (by omega)) si_X12_357 [0, 1] [] rfl rfl (by decide) rfl (by decide) (by decide) rfl rfl rfl rfl rfl (Nat.le_of_ble_eq_true rfl) ⟨Nat.le_of_ble_eq_true rfl, Nat.le_of_ble_eq_true rfl⟩ ⟨Nat.le_of_ble_eq_true rfl, Nat.le_of_ble_eq_true rfl⟩ dX12_dealt_7 (fun r5973 u5974 H locs hr5973 hP hD hS => ?_)
    obtain ⟨jr15975, ip15976, gtrc5977⟩ := u5974
    try dsimp only at hr5973
    have hP : va_P G.1 vwCl [(h0, .inr (12, [.ref nw, .ref nk, .int mhasKept, .ref nt, .int mtaped, .ref nr, .int mrowMany, .int mroundOf, .int mroundFrom, .int mouts, .ref nm, .int mfromHour, .int mtoHour, .ref ns, .int mfrom, .int mto, .int msort, .int misFault, .int mdeep, .int mcoded, .int mlines, .ref nl, .ref nc, .ref nF, .ref np, .ref ntr, .ref nb, .int mbestCost, .ref nso, .ref nsi, .ref nit, .ref nsh, .ref nsf, .ref nss, .ref nrc, .int (nI jr15975), .int 3, .int mnumber, .int mwhose, .int msize, .int ip15976])), (nrc, .inl (G.2.1, 30, .inl gtrc5977))] H := hP
    have hD : va_D A [(h0, .inr (12, [.ref nw, .ref nk, .int mhasKept, .ref nt, .int mtaped, .ref nr, .int mrowMany, .int mroundOf, .int mroundFrom, .int mouts, .ref nm, .int mfromHour, .int mtoHour, .ref ns, .int mfrom, .int mto, .int msort, .int misFault, .int mdeep, .int mcoded, .int mlines, .ref nl, .ref nc, .ref nF, .ref np, .ref ntr, .ref nb, .int mbestCost, .ref nso, .ref nsi, .ref nit, .ref nsh, .ref nsf, .ref nss, .ref nrc, .int (nI jr15975), .int 3, .int mnumber, .int mwhose, .int msize, .int ip15976])), (nrc, .inl (G.2.1, 30, .inl gtrc5977))] := hD
    obtain ⟨hr5973, w5978⟩ := hr5973
    exact RI (v := r5973) hC hP hD hS [0, 1] (jr15975, ip15976, gtrc5977) rfl rfl (by decide) (⟨trivial, by omega⟩) rfl dX12_dealt_10
  · refine iV (wr := []) hC hK hl hP hD hS hA (m_from42 l G h0 xx nw nk mhasKept nt mtaped nr mrowMany mroundOf mroundFrom mouts nm mfromHour mtoHour ns mfrom mto msort misFault mdeep mcoded mlines nl nc nF np ntr nb mbestCost nso nsi nit nsh nsf nss nrc jr 4 mnumber mwhose msize misParted fnrc (by omega) (by omega)) si_X12_357 [0, 1] [] rfl rfl (by decide) rfl (by decide) (by decide) rfl rfl rfl rfl rfl (Nat.le_of_ble_eq_true rfl) ⟨Nat.le_of_ble_eq_true rfl, Nat.le_of_ble_eq_true rfl⟩ ⟨Nat.le_of_ble_eq_true rfl, Nat.le_of_ble_eq_true rfl⟩ dX12_dealt_7 (fun r5979 u5980 H locs hr5979 hP hD hS => ?_)
    obtain ⟨jr15981, ip15982, gtrc5983⟩ := u5980
    try dsimp only at hr5979
    have hP : va_P G.1 vwCl [(h0, .inr (12, [.ref nw, .ref nk, .int mhasKept, .ref nt, .int mtaped, .ref nr, .int mrowMany, .int mroundOf, .int mroundFrom, .int mouts, .ref nm, .int mfromHour, .int mtoHour, .ref ns, .int mfrom, .int mto, .int msort, .int misFault, .int mdeep, .int mcoded, .int mlines, .ref nl, .ref nc, .ref nF, .ref np, .ref ntr, .ref nb, .int mbestCost, .ref nso, .ref nsi, .ref nit, .ref nsh, .ref nsf, .ref nss, .ref nrc, .int (nI jr15981), .int 4, .int mnumber, .int mwhose, .int msize, .int ip15982])), (nrc, .inl (G.2.1, 30, .inl gtrc5983))] H := hP
    have hD : va_D A [(h0, .inr (12, [.ref nw, .ref nk, .int mhasKept, .ref nt, .int mtaped, .ref nr, .int mrowMany, .int mroundOf, .int mroundFrom, .int mouts, .ref nm, .int mfromHour, .int mtoHour, .ref ns, .int mfrom, .int mto, .int msort, .int misFault, .int mdeep, .int mcoded, .int mlines, .ref nl, .ref nc, .ref nF, .ref np, .ref ntr, .ref nb, .int mbestCost, .ref nso, .ref nsi, .ref nit, .ref nsh, .ref nsf, .ref nss, .ref nrc, .int (nI jr15981), .int 4, .int mnumber, .int mwhose, .int msize, .int ip15982])), (nrc, .inl (G.2.1, 30, .inl gtrc5983))] := hD
    obtain ⟨hr5979, w5984⟩ := hr5979
    exact RI (v := r5979) hC hP hD hS [0, 1] (jr15981, ip15982, gtrc5983) rfl rfl (by decide) (⟨trivial, by omega⟩) rfl dX12_dealt_10
  · refine iV (wr := []) hC hK hl hP hD hS hA (m_from52 l G h0 xx nw nk mhasKept nt mtaped nr mrowMany mroundOf mroundFrom mouts nm mfromHour mtoHour ns mfrom mto msort misFault mdeep mcoded mlines nl nc nF np ntr nb mbestCost nso nsi nit nsh nsf nss nrc jr 5 mnumber mwhose msize misParted fnrc (by omega) (by omega)) si_X12_357 [0, 1] [] rfl rfl (by decide) rfl (by decide) (by decide) rfl rfl rfl rfl rfl (Nat.le_of_ble_eq_true rfl) ⟨Nat.le_of_ble_eq_true rfl, Nat.le_of_ble_eq_true rfl⟩ ⟨Nat.le_of_ble_eq_true rfl, Nat.le_of_ble_eq_true rfl⟩ dX12_dealt_7 (fun r5985 u5986 H locs hr5985 hP hD hS => ?_)
    obtain ⟨jr15987, ip15988, gtrc5989⟩ := u5986
    try dsimp only at hr5985
    have hP : va_P G.1 vwCl [(h0, .inr (12, [.ref nw, .ref nk, .int mhasKept, .ref nt, .int mtaped, .ref nr, .int mrowMany, .int mroundOf, .int mroundFrom, .int mouts, .ref nm, .int mfromHour, .int mtoHour, .ref ns, .int mfrom, .int mto, .int msort, .int misFault, .int mdeep, .int mcoded, .int mlines, .ref nl, .ref nc, .ref nF, .ref np, .ref ntr, .ref nb, .int mbestCost, .ref nso, .ref nsi, .ref nit, .ref nsh, .ref nsf, .ref nss, .ref nrc, .int (nI jr15987), .int 5, .int mnumber, .int mwhose, .int msize, .int ip15988])), (nrc, .inl (G.2.1, 30, .inl gtrc5989))] H := hP
    have hD : va_D A [(h0, .inr (12, [.ref nw, .ref nk, .int mhasKept, .ref nt, .int mtaped, .ref nr, .int mrowMany, .int mroundOf, .int mroundFrom, .int mouts, .ref nm, .int mfromHour, .int mtoHour, .ref ns, .int mfrom, .int mto, .int msort, .int misFault, .int mdeep, .int mcoded, .int mlines, .ref nl, .ref nc, .ref nF, .ref np, .ref ntr, .ref nb, .int mbestCost, .ref nso, .ref nsi, .ref nit, .ref nsh, .ref nsf, .ref nss, .ref nrc, .int (nI jr15987), .int 5, .int mnumber, .int mwhose, .int msize, .int ip15988])), (nrc, .inl (G.2.1, 30, .inl gtrc5989))] := hD
    obtain ⟨hr5985, w5990⟩ := hr5985
    exact RI (v := r5985) hC hP hD hS [0, 1] (jr15987, ip15988, gtrc5989) rfl rfl (by decide) (⟨trivial, by omega⟩) rfl dX12_dealt_10
  · refine iV (wr := []) hC hK hl hP hD hS hA (m_from62 l G h0 xx nw nk mhasKept nt mtaped nr mrowMany mroundOf mroundFrom mouts nm mfromHour mtoHour ns mfrom mto msort misFault mdeep mcoded mlines nl nc nF np ntr nb mbestCost nso nsi nit nsh nsf nss nrc jr 6 mnumber mwhose msize misParted fnrc (by omega) (by omega)) si_X12_357 [0, 1] [] rfl rfl (by decide) rfl (by decide) (by decide) rfl rfl rfl rfl rfl (Nat.le_of_ble_eq_true rfl) ⟨Nat.le_of_ble_eq_true rfl, Nat.le_of_ble_eq_true rfl⟩ ⟨Nat.le_of_ble_eq_true rfl, Nat.le_of_ble_eq_true rfl⟩ dX12_dealt_7 (fun r5991 u5992 H locs hr5991 hP hD hS => ?_)
    obtain ⟨jr15993, ip15994, gtrc5995⟩ := u5992
    try dsimp only at hr5991
    have hP : va_P G.1 vwCl [(h0, .inr (12, [.ref nw, .ref nk, .int mhasKept, .ref nt, .int mtaped, .ref nr, .int mrowMany, .int mroundOf, .int mroundFrom, .int mouts, .ref nm, .int mfromHour, .int mtoHour, .ref ns, .int mfrom, .int mto, .int msort, .int misFault, .int mdeep, .int mcoded, .int mlines, .ref nl, .ref nc, .ref nF, .ref np, .ref ntr, .ref nb, .int mbestCost, .ref nso, .ref nsi, .ref nit, .ref nsh, .ref nsf, .ref nss, .ref nrc, .int (nI jr15993), .int 6, .int mnumber, .int mwhose, .int msize, .int ip15994])), (nrc, .inl (G.2.1, 30, .inl gtrc5995))] H := hP
    have hD : va_D A [(h0, .inr (12, [.ref nw, .ref nk, .int mhasKept, .ref nt, .int mtaped, .ref nr, .int mrowMany, .int mroundOf, .int mroundFrom, .int mouts, .ref nm, .int mfromHour, .int mtoHour, .ref ns, .int mfrom, .int mto, .int msort, .int misFault, .int mdeep, .int mcoded, .int mlines, .ref nl, .ref nc, .ref nF, .ref np, .ref ntr, .ref nb, .int mbestCost, .ref nso, .ref nsi, .ref nit, .ref nsh, .ref nsf, .ref nss, .ref nrc, .int (nI jr15993), .int 6, .int mnumber, .int mwhose, .int msize, .int ip15994])), (nrc, .inl (G.2.1, 30, .inl gtrc5995))] := hD
    obtain ⟨hr5991, w5996⟩ := hr5991
    exact RI (v := r5991) hC hP hD hS [0, 1] (jr15993, ip15994, gtrc5995) rfl rfl (by decide) (⟨trivial, by omega⟩) rfl dX12_dealt_10
set_option maxHeartbeats 4000000 in
set_option maxRecDepth 100000 in
theorem m_body03 (l : Launch) (G : GG) (h0 : Nat) (xx : Int32) (nw : Nat) (nk : Nat) (mhasKept : Int32) (nt : Nat) (mtaped : Int32) (nr : Nat) (mrowMany : Int32) (mroundOf : Int32) (mroundFrom : Int32) (mouts : Int32) (nm : Nat) (mfromHour : Int32) (mtoHour : Int32) (ns : Nat) (mfrom : Int32) (mto : Int32) (msort : Int32) (misFault : Int32) (mdeep : Int32) (mcoded : Int32) (mlines : Int32) (nl : Nat) (nc : Nat) (nF : Nat) (np : Nat) (ntr : Nat) (nb : Nat) (mbestCost : Int32) (nso : Nat) (nsi : Nat) (nit : Nat) (nsh : Nat) (nsf : Nat) (nss : Nat) (nrc : Nat) (jr : Nat) (jd : Nat) (mnumber : Int32) (mwhose : Int32) (msize : Int32) (misParted : Int32) (fnrc : Nat → Int32) (hjr : jr ≤ 30) (hjd : jd < 7) : MI l G yX12_body cX12_body 6 (some .int) 39 0 0 [.ref h0, .int 0, .int 3, .int xx] [(h0, .inr (12, [.ref nw, .ref nk, .int mhasKept, .ref nt, .int mtaped, .ref nr, .int mrowMany, .int mroundOf, .int mroundFrom, .int mouts, .ref nm, .int mfromHour, .int mtoHour, .ref ns, .int mfrom, .int mto, .int msort, .int misFault, .int mdeep, .int mcoded, .int mlines, .ref nl, .ref nc, .ref nF, .ref np, .ref ntr, .ref nb, .int mbestCost, .ref nso, .ref nsi, .ref nit, .ref nsh, .ref nsf, .ref nss, .ref nrc, .int (nI jr), .int (nI jd), .int mnumber, .int mwhose, .int msize, .int misParted])), (nrc, .inl (G.2.1, 30, .inl fnrc))] (fun (r : Int32) (u : Nat × Int32 × (Nat → Int32)) => (True) ∧ (u.1 ≤ 30)) (fun u : Nat × Int32 × (Nat → Int32) => [(h0, .inr (12, [.ref nw, .ref nk, .int mhasKept, .ref nt, .int mtaped, .ref nr, .int mrowMany, .int mroundOf, .int mroundFrom, .int mouts, .ref nm, .int mfromHour, .int mtoHour, .ref ns, .int mfrom, .int mto, .int msort, .int misFault, .int mdeep, .int mcoded, .int mlines, .ref nl, .ref nc, .ref nF, .ref np, .ref ntr, .ref nb, .int mbestCost, .ref nso, .ref nsi, .ref nit, .ref nsh, .ref nsf, .ref nss, .ref nrc, .int (nI u.1), .int (nI jd), .int mnumber, .int mwhose, .int msize, .int u.2.1])), (nrc, .inl (G.2.1, 30, .inl u.2.2))]) := by
  refine MI.start (by decide +kernel) (Nat.le_of_ble_eq_true rfl) ?_
  intro p e s m below meth c A ls hC hK hP hD hS hA hl
  have hl : lv_has ls 6 [(0, .ref h0), (1, .int 0), (2, .int 3), (3, .int xx)] := hl
  obtain ⟨hx, hb, hr, hml, hB, hown, hlocks, hnm⟩ := id hC
  refine lv_iconst (v := 4) hx hb dX12_body_0 (by decide) ?_
  refine lv_iload_n hx hb dX12_body_1 rfl (lv_at hl 1 rfl) ?_
  refine lv_imul hx hb dX12_body_2 ?_
  refine eqi (x1 := 0) (by decide) ?_
  refine lv_iload_n hx hb dX12_body_3 rfl (lv_at hl 2 rfl) ?_
  refine lv_iadd hx hb dX12_body_4 ?_
  refine eqi (x1 := 3) (by decide) ?_
  refine lv_tableIn (tgt := 158) hx hb dX12_body_5 (by decide) (by decide) rfl (by decide) ?_
  refine lv_aload_n hx hb dX12_body_158 rfl (lv_at hl 0 rfl) ?_
  refine lv_bipush (v := 13) hx hb dX12_body_159 (by decide) ?_
  refine vV (wr := []) hC hK hl hP hD hS hA (m_began l G h0 13 nw nk mhasKept nt mtaped nr mrowMany mroundOf mroundFrom mouts nm mfromHour mtoHour ns mfrom mto msort misFault mdeep mcoded mlines nl nc nF np ntr nb mbestCost nso nsi nit nsh nsf nss nrc jr (nI jd) mnumber mwhose msize misParted fnrc (by omega)) si_X12_366 [0, 1] [] rfl rfl (by decide) rfl (by decide) (by decide) rfl rfl rfl rfl rfl (Nat.le_of_ble_eq_true rfl) ⟨Nat.le_of_ble_eq_true rfl, Nat.le_of_ble_eq_true rfl⟩ ⟨Nat.le_of_ble_eq_true rfl, Nat.le_of_ble_eq_true rfl⟩ dX12_body_161 (fun u5998 H locs hr5997 hP hD hS => ?_)
  obtain ⟨jr15999, gtrc6000⟩ := u5998
  try dsimp only at hr5997
  have hP : va_P G.1 vwCl [(h0, .inr (12, [.ref nw, .ref nk, .int mhasKept, .ref nt, .int mtaped, .ref nr, .int mrowMany, .int mroundOf, .int mroundFrom, .int mouts, .ref nm, .int mfromHour, .int mtoHour, .ref ns, .int mfrom, .int mto, .int msort, .int misFault, .int mdeep, .int mcoded, .int mlines, .ref nl, .ref nc, .ref nF, .ref np, .ref ntr, .ref nb, .int mbestCost, .ref nso, .ref nsi, .ref nit, .ref nsh, .ref nsf, .ref nss, .ref nrc, .int (nI jr15999), .int (nI jd), .int mnumber, .int mwhose, .int msize, .int misParted])), (nrc, .inl (G.2.1, 30, .inl gtrc6000))] H := hP
  have hD : va_D A [(h0, .inr (12, [.ref nw, .ref nk, .int mhasKept, .ref nt, .int mtaped, .ref nr, .int mrowMany, .int mroundOf, .int mroundFrom, .int mouts, .ref nm, .int mfromHour, .int mtoHour, .ref ns, .int mfrom, .int mto, .int msort, .int misFault, .int mdeep, .int mcoded, .int mlines, .ref nl, .ref nc, .ref nF, .ref np, .ref ntr, .ref nb, .int mbestCost, .ref nso, .ref nsi, .ref nit, .ref nsh, .ref nsf, .ref nss, .ref nrc, .int (nI jr15999), .int (nI jd), .int mnumber, .int mwhose, .int msize, .int misParted])), (nrc, .inl (G.2.1, 30, .inl gtrc6000))] := hD
  have w6001 := hr5997
  refine lv_aload_n hx hb dX12_body_164 rfl (lv_at hl 0 rfl) ?_
  refine lv_aload_n hx hb dX12_body_165 rfl (lv_at hl 0 rfl) ?_
  refine gf_X12_375 hC rfl hK hP 0 rfl rfl dX12_body_166 ?_
  refine lv_aload_n hx hb dX12_body_169 rfl (lv_at hl 0 rfl) ?_
  refine gf_X12_378 hC rfl hK hP 0 rfl rfl dX12_body_170 ?_
  refine lv_icmp_ne (tgt := 180) hx hb dX12_body_173 (by decide) (fun c_173_6002 => ?_) (fun c_173_6002 => ?_)
  · refine lv_iconst (v := 0) hx hb dX12_body_180 (by decide) ?_
    refine pf_X12_380 hC rfl hK hP hD hS 0 (ws' := [(h0, .inr (12, [.ref nw, .ref nk, .int mhasKept, .ref nt, .int mtaped, .ref nr, .int mrowMany, .int mroundOf, .int mroundFrom, .int mouts, .ref nm, .int mfromHour, .int mtoHour, .ref ns, .int mfrom, .int mto, .int msort, .int misFault, .int mdeep, .int mcoded, .int mlines, .ref nl, .ref nc, .ref nF, .ref np, .ref ntr, .ref nb, .int mbestCost, .ref nso, .ref nsi, .ref nit, .ref nsh, .ref nsf, .ref nss, .ref nrc, .int (nI jr15999), .int (nI jd), .int mnumber, .int mwhose, .int msize, .int 0])), (nrc, .inl (G.2.1, 30, .inl gtrc6000))]) rfl (Nat.le_of_ble_eq_true rfl) rfl (by decide +kernel) (by decide +kernel) dX12_body_181 (fun H locs hP hD hS => ?_)
    refine lv_aload_n hx hb dX12_body_184 rfl (lv_at hl 0 rfl) ?_
    refine gf_X12_380 hC rfl hK hP 0 rfl rfl dX12_body_185 ?_
    refine lv_if_eq (tgt := 195) hx hb dX12_body_188 (by decide) (fun _ => ?_) (fun c9 => absurd (by decide) c9)
    refine lv_iload_n hx hb dX12_body_195 rfl (lv_at hl 3 rfl) ?_
    refine lv_aload_n hx hb dX12_body_196 rfl (lv_at hl 0 rfl) ?_
    refine gf_X12_375 hC rfl hK hP 0 rfl rfl dX12_body_197 ?_
    refine lv_aload_n hx hb dX12_body_200 rfl (lv_at hl 0 rfl) ?_
    refine gf_X12_378 hC rfl hK hP 0 rfl rfl dX12_body_201 ?_
    refine lv_isub hx hb dX12_body_204 ?_
    refine lv_idiv hx hb dX12_body_205 (nz_sub c_173_6002) ?_
    refine lv_topi (fun x6003 ex6003 => ?_)
    exact RI (v := x6003) hC hP hD hS [0, 1] (jr15999, 0, gtrc6000) rfl rfl (by decide) (⟨trivial, by omega⟩) rfl dX12_body_206
  · refine lv_iconst (v := 1) hx hb dX12_body_176 (by decide) ?_
    refine lv_goto (tgt := 181) hx hb dX12_body_177 (by decide) ?_
    refine pf_X12_380 hC rfl hK hP hD hS 0 (ws' := [(h0, .inr (12, [.ref nw, .ref nk, .int mhasKept, .ref nt, .int mtaped, .ref nr, .int mrowMany, .int mroundOf, .int mroundFrom, .int mouts, .ref nm, .int mfromHour, .int mtoHour, .ref ns, .int mfrom, .int mto, .int msort, .int misFault, .int mdeep, .int mcoded, .int mlines, .ref nl, .ref nc, .ref nF, .ref np, .ref ntr, .ref nb, .int mbestCost, .ref nso, .ref nsi, .ref nit, .ref nsh, .ref nsf, .ref nss, .ref nrc, .int (nI jr15999), .int (nI jd), .int mnumber, .int mwhose, .int msize, .int 1])), (nrc, .inl (G.2.1, 30, .inl gtrc6000))]) rfl (Nat.le_of_ble_eq_true rfl) rfl (by decide +kernel) (by decide +kernel) dX12_body_181 (fun H locs hP hD hS => ?_)
    refine lv_aload_n hx hb dX12_body_184 rfl (lv_at hl 0 rfl) ?_
    refine gf_X12_380 hC rfl hK hP 0 rfl rfl dX12_body_185 ?_
    refine lv_if_eq (tgt := 195) hx hb dX12_body_188 (by decide) (fun c9 => absurd c9 (by decide)) (fun _ => ?_)
    refine lv_iconst (v := 0) hx hb dX12_body_191 (by decide) ?_
    refine lv_goto (tgt := 206) hx hb dX12_body_192 (by decide) ?_
    exact RI (v := 0) hC hP hD hS [0, 1] (jr15999, 1, gtrc6000) rfl rfl (by decide) (⟨trivial, by omega⟩) rfl dX12_body_206
set_option maxHeartbeats 4000000 in
set_option maxRecDepth 100000 in
theorem m_from03 (l : Launch) (G : GG) (h0 : Nat) (xx : Int32) (nw : Nat) (nk : Nat) (mhasKept : Int32) (nt : Nat) (mtaped : Int32) (nr : Nat) (mrowMany : Int32) (mroundOf : Int32) (mroundFrom : Int32) (mouts : Int32) (nm : Nat) (mfromHour : Int32) (mtoHour : Int32) (ns : Nat) (mfrom : Int32) (mto : Int32) (msort : Int32) (misFault : Int32) (mdeep : Int32) (mcoded : Int32) (mlines : Int32) (nl : Nat) (nc : Nat) (nF : Nat) (np : Nat) (ntr : Nat) (nb : Nat) (mbestCost : Int32) (nso : Nat) (nsi : Nat) (nit : Nat) (nsh : Nat) (nsf : Nat) (nss : Nat) (nrc : Nat) (jr : Nat) (jd : Nat) (mnumber : Int32) (mwhose : Int32) (msize : Int32) (misParted : Int32) (fnrc : Nat → Int32) (hjr : jr ≤ 30) (hjd : jd < 7) : MI l G yX12_bodyFrom cX12_bodyFrom 5 (some .int) 40 0 0 [.ref h0, .int 0, .int 3, .int xx] [(h0, .inr (12, [.ref nw, .ref nk, .int mhasKept, .ref nt, .int mtaped, .ref nr, .int mrowMany, .int mroundOf, .int mroundFrom, .int mouts, .ref nm, .int mfromHour, .int mtoHour, .ref ns, .int mfrom, .int mto, .int msort, .int misFault, .int mdeep, .int mcoded, .int mlines, .ref nl, .ref nc, .ref nF, .ref np, .ref ntr, .ref nb, .int mbestCost, .ref nso, .ref nsi, .ref nit, .ref nsh, .ref nsf, .ref nss, .ref nrc, .int (nI jr), .int (nI jd), .int mnumber, .int mwhose, .int msize, .int misParted])), (nrc, .inl (G.2.1, 30, .inl fnrc))] (fun (r : Int32) (u : Nat × Int32 × (Nat → Int32)) => (True) ∧ (u.1 ≤ 30)) (fun u : Nat × Int32 × (Nat → Int32) => [(h0, .inr (12, [.ref nw, .ref nk, .int mhasKept, .ref nt, .int mtaped, .ref nr, .int mrowMany, .int mroundOf, .int mroundFrom, .int mouts, .ref nm, .int mfromHour, .int mtoHour, .ref ns, .int mfrom, .int mto, .int msort, .int misFault, .int mdeep, .int mcoded, .int mlines, .ref nl, .ref nc, .ref nF, .ref np, .ref ntr, .ref nb, .int mbestCost, .ref nso, .ref nsi, .ref nit, .ref nsh, .ref nsf, .ref nss, .ref nrc, .int (nI u.1), .int (nI jd), .int mnumber, .int mwhose, .int msize, .int u.2.1])), (nrc, .inl (G.2.1, 30, .inl u.2.2))]) := by
  refine MI.start (by decide +kernel) (Nat.le_of_ble_eq_true rfl) ?_
  intro p e s m below meth c A ls hC hK hP hD hS hA hl
  have hl : lv_has ls 5 [(0, .ref h0), (1, .int 0), (2, .int 3), (3, .int xx)] := hl
  obtain ⟨hx, hb, hr, hml, hB, hown, hlocks, hnm⟩ := id hC
  refine lv_iload_n hx hb dX12_bodyFrom_0 rfl (lv_at hl 1 rfl) ?_
  refine lv_istore (lv' := [(4, .int 0), (0, .ref h0), (1, .int 0), (2, .int 3), (3, .int xx)]) hx hb dX12_bodyFrom_1 hl (by decide) rfl (fun ls hl => ?_)
  refine lv_iload hx hb dX12_bodyFrom_3 (lv_at hl 0 rfl) ?_
  refine lv_iload_n hx hb dX12_bodyFrom_5 rfl (lv_at hl 3 rfl) ?_
  refine pS hC hK hl (m_hasOwn03 l G) si_X12_360 rfl rfl (Nat.le_of_ble_eq_true rfl) ⟨Nat.le_of_ble_eq_true rfl, Nat.le_of_ble_eq_true rfl⟩ ⟨by first | exact Nat.le_of_ble_eq_true rfl | exact Nat.zero_le _, by first | exact Nat.le_of_ble_eq_true rfl | exact Nat.zero_le _⟩ dX12_bodyFrom_6 (fun r6004 hr6004 => ?_)
  obtain rfl := hr6004
  refine lv_if_ne (tgt := 22) hx hb dX12_bodyFrom_9 (by decide) (fun _ => ?_) (fun c9 => absurd c9 (by decide))
  refine lv_aload_n hx hb dX12_bodyFrom_22 rfl (lv_at hl 1 rfl) ?_
  refine lv_iload hx hb dX12_bodyFrom_23 (lv_at hl 0 rfl) ?_
  refine lv_iload_n hx hb dX12_bodyFrom_25 rfl (lv_at hl 3 rfl) ?_
  refine lv_iload_n hx hb dX12_bodyFrom_26 rfl (lv_at hl 4 rfl) ?_
  refine iV (wr := []) hC hK hl hP hD hS hA (m_body03 l G h0 xx nw nk mhasKept nt mtaped nr mrowMany mroundOf mroundFrom mouts nm mfromHour mtoHour ns mfrom mto msort misFault mdeep mcoded mlines nl nc nF np ntr nb mbestCost nso nsi nit nsh nsf nss nrc jr jd mnumber mwhose msize misParted fnrc (by omega) (by omega)) si_X12_363 [0, 1] [] rfl rfl (by decide) rfl (by decide) (by decide) rfl rfl rfl rfl rfl (Nat.le_of_ble_eq_true rfl) ⟨Nat.le_of_ble_eq_true rfl, Nat.le_of_ble_eq_true rfl⟩ ⟨Nat.le_of_ble_eq_true rfl, Nat.le_of_ble_eq_true rfl⟩ dX12_bodyFrom_27 (fun r6006 u6007 H locs hr6006 hP hD hS => ?_)
  obtain ⟨jr16008, ip16009, gtrc6010⟩ := u6007
  try dsimp only at hr6006
  have hP : va_P G.1 vwCl [(h0, .inr (12, [.ref nw, .ref nk, .int mhasKept, .ref nt, .int mtaped, .ref nr, .int mrowMany, .int mroundOf, .int mroundFrom, .int mouts, .ref nm, .int mfromHour, .int mtoHour, .ref ns, .int mfrom, .int mto, .int msort, .int misFault, .int mdeep, .int mcoded, .int mlines, .ref nl, .ref nc, .ref nF, .ref np, .ref ntr, .ref nb, .int mbestCost, .ref nso, .ref nsi, .ref nit, .ref nsh, .ref nsf, .ref nss, .ref nrc, .int (nI jr16008), .int (nI jd), .int mnumber, .int mwhose, .int msize, .int ip16009])), (nrc, .inl (G.2.1, 30, .inl gtrc6010))] H := hP
  have hD : va_D A [(h0, .inr (12, [.ref nw, .ref nk, .int mhasKept, .ref nt, .int mtaped, .ref nr, .int mrowMany, .int mroundOf, .int mroundFrom, .int mouts, .ref nm, .int mfromHour, .int mtoHour, .ref ns, .int mfrom, .int mto, .int msort, .int misFault, .int mdeep, .int mcoded, .int mlines, .ref nl, .ref nc, .ref nF, .ref np, .ref ntr, .ref nb, .int mbestCost, .ref nso, .ref nsi, .ref nit, .ref nsh, .ref nsf, .ref nss, .ref nrc, .int (nI jr16008), .int (nI jd), .int mnumber, .int mwhose, .int msize, .int ip16009])), (nrc, .inl (G.2.1, 30, .inl gtrc6010))] := hD
  obtain ⟨hr6006, w6011⟩ := hr6006
  exact RI (v := r6006) hC hP hD hS [0, 1] (jr16008, ip16009, gtrc6010) rfl rfl (by decide) (⟨trivial, by omega⟩) rfl dX12_bodyFrom_30
set_option maxHeartbeats 4000000 in
set_option maxRecDepth 100000 in
theorem m_from13 (l : Launch) (G : GG) (h0 : Nat) (xx : Int32) (nw : Nat) (nk : Nat) (mhasKept : Int32) (nt : Nat) (mtaped : Int32) (nr : Nat) (mrowMany : Int32) (mroundOf : Int32) (mroundFrom : Int32) (mouts : Int32) (nm : Nat) (mfromHour : Int32) (mtoHour : Int32) (ns : Nat) (mfrom : Int32) (mto : Int32) (msort : Int32) (misFault : Int32) (mdeep : Int32) (mcoded : Int32) (mlines : Int32) (nl : Nat) (nc : Nat) (nF : Nat) (np : Nat) (ntr : Nat) (nb : Nat) (mbestCost : Int32) (nso : Nat) (nsi : Nat) (nit : Nat) (nsh : Nat) (nsf : Nat) (nss : Nat) (nrc : Nat) (jr : Nat) (jd : Nat) (mnumber : Int32) (mwhose : Int32) (msize : Int32) (misParted : Int32) (fnrc : Nat → Int32) (hjr : jr ≤ 30) (hjd : jd < 7) : MI l G yX12_bodyFrom cX12_bodyFrom 5 (some .int) 42 0 0 [.ref h0, .int 1, .int 3, .int xx] [(h0, .inr (12, [.ref nw, .ref nk, .int mhasKept, .ref nt, .int mtaped, .ref nr, .int mrowMany, .int mroundOf, .int mroundFrom, .int mouts, .ref nm, .int mfromHour, .int mtoHour, .ref ns, .int mfrom, .int mto, .int msort, .int misFault, .int mdeep, .int mcoded, .int mlines, .ref nl, .ref nc, .ref nF, .ref np, .ref ntr, .ref nb, .int mbestCost, .ref nso, .ref nsi, .ref nit, .ref nsh, .ref nsf, .ref nss, .ref nrc, .int (nI jr), .int (nI jd), .int mnumber, .int mwhose, .int msize, .int misParted])), (nrc, .inl (G.2.1, 30, .inl fnrc))] (fun (r : Int32) (u : Nat × Int32 × (Nat → Int32)) => (True) ∧ (u.1 ≤ 30)) (fun u : Nat × Int32 × (Nat → Int32) => [(h0, .inr (12, [.ref nw, .ref nk, .int mhasKept, .ref nt, .int mtaped, .ref nr, .int mrowMany, .int mroundOf, .int mroundFrom, .int mouts, .ref nm, .int mfromHour, .int mtoHour, .ref ns, .int mfrom, .int mto, .int msort, .int misFault, .int mdeep, .int mcoded, .int mlines, .ref nl, .ref nc, .ref nF, .ref np, .ref ntr, .ref nb, .int mbestCost, .ref nso, .ref nsi, .ref nit, .ref nsh, .ref nsf, .ref nss, .ref nrc, .int (nI u.1), .int (nI jd), .int mnumber, .int mwhose, .int msize, .int u.2.1])), (nrc, .inl (G.2.1, 30, .inl u.2.2))]) := by
  refine MI.start (by decide +kernel) (Nat.le_of_ble_eq_true rfl) ?_
  intro p e s m below meth c A ls hC hK hP hD hS hA hl
  have hl : lv_has ls 5 [(0, .ref h0), (1, .int 1), (2, .int 3), (3, .int xx)] := hl
  obtain ⟨hx, hb, hr, hml, hB, hown, hlocks, hnm⟩ := id hC
  refine lv_iload_n hx hb dX12_bodyFrom_0 rfl (lv_at hl 1 rfl) ?_
  refine lv_istore (lv' := [(4, .int 1), (0, .ref h0), (1, .int 1), (2, .int 3), (3, .int xx)]) hx hb dX12_bodyFrom_1 hl (by decide) rfl (fun ls hl => ?_)
  refine lv_iload hx hb dX12_bodyFrom_3 (lv_at hl 0 rfl) ?_
  refine lv_iload_n hx hb dX12_bodyFrom_5 rfl (lv_at hl 3 rfl) ?_
  refine pS hC hK hl (m_hasOwn13 l G) si_X12_360 rfl rfl (Nat.le_of_ble_eq_true rfl) ⟨Nat.le_of_ble_eq_true rfl, Nat.le_of_ble_eq_true rfl⟩ ⟨by first | exact Nat.le_of_ble_eq_true rfl | exact Nat.zero_le _, by first | exact Nat.le_of_ble_eq_true rfl | exact Nat.zero_le _⟩ dX12_bodyFrom_6 (fun r6012 hr6012 => ?_)
  obtain rfl := hr6012
  refine lv_if_ne (tgt := 22) hx hb dX12_bodyFrom_9 (by decide) (fun c9 => absurd (by decide) c9) (fun _ => ?_)
  refine lv_iload hx hb dX12_bodyFrom_12 (lv_at hl 0 rfl) ?_
  refine pS hC hK hl (m_above1 l G) si_X12_348 rfl rfl (Nat.le_of_ble_eq_true rfl) ⟨Nat.le_of_ble_eq_true rfl, Nat.le_of_ble_eq_true rfl⟩ ⟨by first | exact Nat.le_of_ble_eq_true rfl | exact Nat.zero_le _, by first | exact Nat.le_of_ble_eq_true rfl | exact Nat.zero_le _⟩ dX12_bodyFrom_14 (fun r6014 hr6014 => ?_)
  obtain rfl := hr6014
  refine lv_istore (lv' := [(4, .int 0), (0, .ref h0), (1, .int 1), (2, .int 3), (3, .int xx)]) hx hb dX12_bodyFrom_17 hl (by decide) rfl (fun ls hl => ?_)
  refine lv_goto (tgt := 3) hx hb dX12_bodyFrom_19 (by decide) ?_
  refine lv_iload hx hb dX12_bodyFrom_3 (lv_at hl 0 rfl) ?_
  refine lv_iload_n hx hb dX12_bodyFrom_5 rfl (lv_at hl 3 rfl) ?_
  refine pS hC hK hl (m_hasOwn03 l G) si_X12_360 rfl rfl (Nat.le_of_ble_eq_true rfl) ⟨Nat.le_of_ble_eq_true rfl, Nat.le_of_ble_eq_true rfl⟩ ⟨by first | exact Nat.le_of_ble_eq_true rfl | exact Nat.zero_le _, by first | exact Nat.le_of_ble_eq_true rfl | exact Nat.zero_le _⟩ dX12_bodyFrom_6 (fun r6016 hr6016 => ?_)
  obtain rfl := hr6016
  refine lv_if_ne (tgt := 22) hx hb dX12_bodyFrom_9 (by decide) (fun _ => ?_) (fun c9 => absurd c9 (by decide))
  refine lv_aload_n hx hb dX12_bodyFrom_22 rfl (lv_at hl 1 rfl) ?_
  refine lv_iload hx hb dX12_bodyFrom_23 (lv_at hl 0 rfl) ?_
  refine lv_iload_n hx hb dX12_bodyFrom_25 rfl (lv_at hl 3 rfl) ?_
  refine lv_iload_n hx hb dX12_bodyFrom_26 rfl (lv_at hl 4 rfl) ?_
  refine iV (wr := []) hC hK hl hP hD hS hA (m_body03 l G h0 xx nw nk mhasKept nt mtaped nr mrowMany mroundOf mroundFrom mouts nm mfromHour mtoHour ns mfrom mto msort misFault mdeep mcoded mlines nl nc nF np ntr nb mbestCost nso nsi nit nsh nsf nss nrc jr jd mnumber mwhose msize misParted fnrc (by omega) (by omega)) si_X12_363 [0, 1] [] rfl rfl (by decide) rfl (by decide) (by decide) rfl rfl rfl rfl rfl (Nat.le_of_ble_eq_true rfl) ⟨Nat.le_of_ble_eq_true rfl, Nat.le_of_ble_eq_true rfl⟩ ⟨Nat.le_of_ble_eq_true rfl, Nat.le_of_ble_eq_true rfl⟩ dX12_bodyFrom_27 (fun r6018 u6019 H locs hr6018 hP hD hS => ?_)
  obtain ⟨jr16020, ip16021, gtrc6022⟩ := u6019
  try dsimp only at hr6018
  have hP : va_P G.1 vwCl [(h0, .inr (12, [.ref nw, .ref nk, .int mhasKept, .ref nt, .int mtaped, .ref nr, .int mrowMany, .int mroundOf, .int mroundFrom, .int mouts, .ref nm, .int mfromHour, .int mtoHour, .ref ns, .int mfrom, .int mto, .int msort, .int misFault, .int mdeep, .int mcoded, .int mlines, .ref nl, .ref nc, .ref nF, .ref np, .ref ntr, .ref nb, .int mbestCost, .ref nso, .ref nsi, .ref nit, .ref nsh, .ref nsf, .ref nss, .ref nrc, .int (nI jr16020), .int (nI jd), .int mnumber, .int mwhose, .int msize, .int ip16021])), (nrc, .inl (G.2.1, 30, .inl gtrc6022))] H := hP
  have hD : va_D A [(h0, .inr (12, [.ref nw, .ref nk, .int mhasKept, .ref nt, .int mtaped, .ref nr, .int mrowMany, .int mroundOf, .int mroundFrom, .int mouts, .ref nm, .int mfromHour, .int mtoHour, .ref ns, .int mfrom, .int mto, .int msort, .int misFault, .int mdeep, .int mcoded, .int mlines, .ref nl, .ref nc, .ref nF, .ref np, .ref ntr, .ref nb, .int mbestCost, .ref nso, .ref nsi, .ref nit, .ref nsh, .ref nsf, .ref nss, .ref nrc, .int (nI jr16020), .int (nI jd), .int mnumber, .int mwhose, .int msize, .int ip16021])), (nrc, .inl (G.2.1, 30, .inl gtrc6022))] := hD
  obtain ⟨hr6018, w6023⟩ := hr6018
  exact RI (v := r6018) hC hP hD hS [0, 1] (jr16020, ip16021, gtrc6022) rfl rfl (by decide) (⟨trivial, by omega⟩) rfl dX12_bodyFrom_30
set_option maxHeartbeats 4000000 in
set_option maxRecDepth 100000 in
theorem m_body33 (l : Launch) (G : GG) (h0 : Nat) (xx : Int32) (nw : Nat) (nk : Nat) (mhasKept : Int32) (nt : Nat) (mtaped : Int32) (nr : Nat) (mrowMany : Int32) (mroundOf : Int32) (mroundFrom : Int32) (mouts : Int32) (nm : Nat) (mfromHour : Int32) (mtoHour : Int32) (ns : Nat) (mfrom : Int32) (mto : Int32) (msort : Int32) (misFault : Int32) (mdeep : Int32) (mcoded : Int32) (mlines : Int32) (nl : Nat) (nc : Nat) (nF : Nat) (np : Nat) (ntr : Nat) (nb : Nat) (mbestCost : Int32) (nso : Nat) (nsi : Nat) (nit : Nat) (nsh : Nat) (nsf : Nat) (nss : Nat) (nrc : Nat) (jr : Nat) (jd : Nat) (mnumber : Int32) (mwhose : Int32) (msize : Int32) (misParted : Int32) (fnrc : Nat → Int32) (hjr : jr ≤ 30) (hjd : jd < 7) : MI l G yX12_body cX12_body 6 (some .int) 43 0 0 [.ref h0, .int 3, .int 3, .int xx] [(h0, .inr (12, [.ref nw, .ref nk, .int mhasKept, .ref nt, .int mtaped, .ref nr, .int mrowMany, .int mroundOf, .int mroundFrom, .int mouts, .ref nm, .int mfromHour, .int mtoHour, .ref ns, .int mfrom, .int mto, .int msort, .int misFault, .int mdeep, .int mcoded, .int mlines, .ref nl, .ref nc, .ref nF, .ref np, .ref ntr, .ref nb, .int mbestCost, .ref nso, .ref nsi, .ref nit, .ref nsh, .ref nsf, .ref nss, .ref nrc, .int (nI jr), .int (nI jd), .int mnumber, .int mwhose, .int msize, .int misParted])), (nrc, .inl (G.2.1, 30, .inl fnrc))] (fun (r : Int32) (u : Nat × Int32 × (Nat → Int32)) => (True) ∧ (u.1 ≤ 30)) (fun u : Nat × Int32 × (Nat → Int32) => [(h0, .inr (12, [.ref nw, .ref nk, .int mhasKept, .ref nt, .int mtaped, .ref nr, .int mrowMany, .int mroundOf, .int mroundFrom, .int mouts, .ref nm, .int mfromHour, .int mtoHour, .ref ns, .int mfrom, .int mto, .int msort, .int misFault, .int mdeep, .int mcoded, .int mlines, .ref nl, .ref nc, .ref nF, .ref np, .ref ntr, .ref nb, .int mbestCost, .ref nso, .ref nsi, .ref nit, .ref nsh, .ref nsf, .ref nss, .ref nrc, .int (nI u.1), .int (nI jd), .int mnumber, .int mwhose, .int msize, .int u.2.1])), (nrc, .inl (G.2.1, 30, .inl u.2.2))]) := by
  refine MI.start (by decide +kernel) (Nat.le_of_ble_eq_true rfl) ?_
  intro p e s m below meth c A ls hC hK hP hD hS hA hl
  have hl : lv_has ls 6 [(0, .ref h0), (1, .int 3), (2, .int 3), (3, .int xx)] := hl
  obtain ⟨hx, hb, hr, hml, hB, hown, hlocks, hnm⟩ := id hC
  refine lv_iconst (v := 4) hx hb dX12_body_0 (by decide) ?_
  refine lv_iload_n hx hb dX12_body_1 rfl (lv_at hl 1 rfl) ?_
  refine lv_imul hx hb dX12_body_2 ?_
  refine eqi (x1 := 12) (by decide) ?_
  refine lv_iload_n hx hb dX12_body_3 rfl (lv_at hl 2 rfl) ?_
  refine lv_iadd hx hb dX12_body_4 ?_
  refine eqi (x1 := 15) (by decide) ?_
  refine lv_tableIn (tgt := 258) hx hb dX12_body_5 (by decide) (by decide) rfl (by decide) ?_
  refine lv_aload_n hx hb dX12_body_258 rfl (lv_at hl 0 rfl) ?_
  refine lv_bipush (v := 41) hx hb dX12_body_259 (by decide) ?_
  refine vV (wr := []) hC hK hl hP hD hS hA (m_began l G h0 41 nw nk mhasKept nt mtaped nr mrowMany mroundOf mroundFrom mouts nm mfromHour mtoHour ns mfrom mto msort misFault mdeep mcoded mlines nl nc nF np ntr nb mbestCost nso nsi nit nsh nsf nss nrc jr (nI jd) mnumber mwhose msize misParted fnrc (by omega)) si_X12_366 [0, 1] [] rfl rfl (by decide) rfl (by decide) (by decide) rfl rfl rfl rfl rfl (Nat.le_of_ble_eq_true rfl) ⟨Nat.le_of_ble_eq_true rfl, Nat.le_of_ble_eq_true rfl⟩ ⟨Nat.le_of_ble_eq_true rfl, Nat.le_of_ble_eq_true rfl⟩ dX12_body_261 (fun u6025 H locs hr6024 hP hD hS => ?_)
  obtain ⟨jr16026, gtrc6027⟩ := u6025
  try dsimp only at hr6024
  have hP : va_P G.1 vwCl [(h0, .inr (12, [.ref nw, .ref nk, .int mhasKept, .ref nt, .int mtaped, .ref nr, .int mrowMany, .int mroundOf, .int mroundFrom, .int mouts, .ref nm, .int mfromHour, .int mtoHour, .ref ns, .int mfrom, .int mto, .int msort, .int misFault, .int mdeep, .int mcoded, .int mlines, .ref nl, .ref nc, .ref nF, .ref np, .ref ntr, .ref nb, .int mbestCost, .ref nso, .ref nsi, .ref nit, .ref nsh, .ref nsf, .ref nss, .ref nrc, .int (nI jr16026), .int (nI jd), .int mnumber, .int mwhose, .int msize, .int misParted])), (nrc, .inl (G.2.1, 30, .inl gtrc6027))] H := hP
  have hD : va_D A [(h0, .inr (12, [.ref nw, .ref nk, .int mhasKept, .ref nt, .int mtaped, .ref nr, .int mrowMany, .int mroundOf, .int mroundFrom, .int mouts, .ref nm, .int mfromHour, .int mtoHour, .ref ns, .int mfrom, .int mto, .int msort, .int misFault, .int mdeep, .int mcoded, .int mlines, .ref nl, .ref nc, .ref nF, .ref np, .ref ntr, .ref nb, .int mbestCost, .ref nso, .ref nsi, .ref nit, .ref nsh, .ref nsf, .ref nss, .ref nrc, .int (nI jr16026), .int (nI jd), .int mnumber, .int mwhose, .int msize, .int misParted])), (nrc, .inl (G.2.1, 30, .inl gtrc6027))] := hD
  have w6028 := hr6024
  refine lv_aload_n hx hb dX12_body_264 rfl (lv_at hl 0 rfl) ?_
  refine lv_iconst (v := 1) hx hb dX12_body_265 (by decide) ?_
  refine lv_iconst (v := 3) hx hb dX12_body_266 (by decide) ?_
  refine lv_iload_n hx hb dX12_body_267 rfl (lv_at hl 3 rfl) ?_
  refine lv_iconst (v := 2) hx hb dX12_body_268 (by decide) ?_
  refine lv_iadd hx hb dX12_body_269 ?_
  refine iV (wr := []) hC hK hl hP hD hS hA (m_from13 l G h0 (xx + 2) nw nk mhasKept nt mtaped nr mrowMany mroundOf mroundFrom mouts nm mfromHour mtoHour ns mfrom mto msort misFault mdeep mcoded mlines nl nc nF np ntr nb mbestCost nso nsi nit nsh nsf nss nrc jr16026 jd mnumber mwhose msize misParted gtrc6027 (by omega) (by omega)) si_X12_357 [0, 1] [] rfl rfl (by decide) rfl (by decide) (by decide) rfl rfl rfl rfl rfl (Nat.le_of_ble_eq_true rfl) ⟨Nat.le_of_ble_eq_true rfl, Nat.le_of_ble_eq_true rfl⟩ ⟨Nat.le_of_ble_eq_true rfl, Nat.le_of_ble_eq_true rfl⟩ dX12_body_270 (fun r6029 u6030 H locs hr6029 hP hD hS => ?_)
  obtain ⟨jr16031, ip16032, gtrc6033⟩ := u6030
  try dsimp only at hr6029
  have hP : va_P G.1 vwCl [(h0, .inr (12, [.ref nw, .ref nk, .int mhasKept, .ref nt, .int mtaped, .ref nr, .int mrowMany, .int mroundOf, .int mroundFrom, .int mouts, .ref nm, .int mfromHour, .int mtoHour, .ref ns, .int mfrom, .int mto, .int msort, .int misFault, .int mdeep, .int mcoded, .int mlines, .ref nl, .ref nc, .ref nF, .ref np, .ref ntr, .ref nb, .int mbestCost, .ref nso, .ref nsi, .ref nit, .ref nsh, .ref nsf, .ref nss, .ref nrc, .int (nI jr16031), .int (nI jd), .int mnumber, .int mwhose, .int msize, .int ip16032])), (nrc, .inl (G.2.1, 30, .inl gtrc6033))] H := hP
  have hD : va_D A [(h0, .inr (12, [.ref nw, .ref nk, .int mhasKept, .ref nt, .int mtaped, .ref nr, .int mrowMany, .int mroundOf, .int mroundFrom, .int mouts, .ref nm, .int mfromHour, .int mtoHour, .ref ns, .int mfrom, .int mto, .int msort, .int misFault, .int mdeep, .int mcoded, .int mlines, .ref nl, .ref nc, .ref nF, .ref np, .ref ntr, .ref nb, .int mbestCost, .ref nso, .ref nsi, .ref nit, .ref nsh, .ref nsf, .ref nss, .ref nrc, .int (nI jr16031), .int (nI jd), .int mnumber, .int mwhose, .int msize, .int ip16032])), (nrc, .inl (G.2.1, 30, .inl gtrc6033))] := hD
  obtain ⟨hr6029, w6034⟩ := hr6029
  exact RI (v := r6029) hC hP hD hS [0, 1] (jr16031, ip16032, gtrc6033) rfl rfl (by decide) (⟨trivial, by omega⟩) rfl dX12_body_273
set_option maxHeartbeats 4000000 in
set_option maxRecDepth 100000 in
theorem m_from33 (l : Launch) (G : GG) (h0 : Nat) (xx : Int32) (nw : Nat) (nk : Nat) (mhasKept : Int32) (nt : Nat) (mtaped : Int32) (nr : Nat) (mrowMany : Int32) (mroundOf : Int32) (mroundFrom : Int32) (mouts : Int32) (nm : Nat) (mfromHour : Int32) (mtoHour : Int32) (ns : Nat) (mfrom : Int32) (mto : Int32) (msort : Int32) (misFault : Int32) (mdeep : Int32) (mcoded : Int32) (mlines : Int32) (nl : Nat) (nc : Nat) (nF : Nat) (np : Nat) (ntr : Nat) (nb : Nat) (mbestCost : Int32) (nso : Nat) (nsi : Nat) (nit : Nat) (nsh : Nat) (nsf : Nat) (nss : Nat) (nrc : Nat) (jr : Nat) (jd : Nat) (mnumber : Int32) (mwhose : Int32) (msize : Int32) (misParted : Int32) (fnrc : Nat → Int32) (hjr : jr ≤ 30) (hjd : jd < 7) : MI l G yX12_bodyFrom cX12_bodyFrom 5 (some .int) 44 0 0 [.ref h0, .int 3, .int 3, .int xx] [(h0, .inr (12, [.ref nw, .ref nk, .int mhasKept, .ref nt, .int mtaped, .ref nr, .int mrowMany, .int mroundOf, .int mroundFrom, .int mouts, .ref nm, .int mfromHour, .int mtoHour, .ref ns, .int mfrom, .int mto, .int msort, .int misFault, .int mdeep, .int mcoded, .int mlines, .ref nl, .ref nc, .ref nF, .ref np, .ref ntr, .ref nb, .int mbestCost, .ref nso, .ref nsi, .ref nit, .ref nsh, .ref nsf, .ref nss, .ref nrc, .int (nI jr), .int (nI jd), .int mnumber, .int mwhose, .int msize, .int misParted])), (nrc, .inl (G.2.1, 30, .inl fnrc))] (fun (r : Int32) (u : Nat × Int32 × (Nat → Int32)) => (True) ∧ (u.1 ≤ 30)) (fun u : Nat × Int32 × (Nat → Int32) => [(h0, .inr (12, [.ref nw, .ref nk, .int mhasKept, .ref nt, .int mtaped, .ref nr, .int mrowMany, .int mroundOf, .int mroundFrom, .int mouts, .ref nm, .int mfromHour, .int mtoHour, .ref ns, .int mfrom, .int mto, .int msort, .int misFault, .int mdeep, .int mcoded, .int mlines, .ref nl, .ref nc, .ref nF, .ref np, .ref ntr, .ref nb, .int mbestCost, .ref nso, .ref nsi, .ref nit, .ref nsh, .ref nsf, .ref nss, .ref nrc, .int (nI u.1), .int (nI jd), .int mnumber, .int mwhose, .int msize, .int u.2.1])), (nrc, .inl (G.2.1, 30, .inl u.2.2))]) := by
  refine MI.start (by decide +kernel) (Nat.le_of_ble_eq_true rfl) ?_
  intro p e s m below meth c A ls hC hK hP hD hS hA hl
  have hl : lv_has ls 5 [(0, .ref h0), (1, .int 3), (2, .int 3), (3, .int xx)] := hl
  obtain ⟨hx, hb, hr, hml, hB, hown, hlocks, hnm⟩ := id hC
  refine lv_iload_n hx hb dX12_bodyFrom_0 rfl (lv_at hl 1 rfl) ?_
  refine lv_istore (lv' := [(4, .int 3), (0, .ref h0), (1, .int 3), (2, .int 3), (3, .int xx)]) hx hb dX12_bodyFrom_1 hl (by decide) rfl (fun ls hl => ?_)
  refine lv_iload hx hb dX12_bodyFrom_3 (lv_at hl 0 rfl) ?_
  refine lv_iload_n hx hb dX12_bodyFrom_5 rfl (lv_at hl 3 rfl) ?_
  refine pS hC hK hl (m_hasOwn33 l G) si_X12_360 rfl rfl (Nat.le_of_ble_eq_true rfl) ⟨Nat.le_of_ble_eq_true rfl, Nat.le_of_ble_eq_true rfl⟩ ⟨by first | exact Nat.le_of_ble_eq_true rfl | exact Nat.zero_le _, by first | exact Nat.le_of_ble_eq_true rfl | exact Nat.zero_le _⟩ dX12_bodyFrom_6 (fun r6035 hr6035 => ?_)
  obtain rfl := hr6035
  refine lv_if_ne (tgt := 22) hx hb dX12_bodyFrom_9 (by decide) (fun _ => ?_) (fun c9 => absurd c9 (by decide))
  refine lv_aload_n hx hb dX12_bodyFrom_22 rfl (lv_at hl 1 rfl) ?_
  refine lv_iload hx hb dX12_bodyFrom_23 (lv_at hl 0 rfl) ?_
  refine lv_iload_n hx hb dX12_bodyFrom_25 rfl (lv_at hl 3 rfl) ?_
  refine lv_iload_n hx hb dX12_bodyFrom_26 rfl (lv_at hl 4 rfl) ?_
  refine iV (wr := []) hC hK hl hP hD hS hA (m_body33 l G h0 xx nw nk mhasKept nt mtaped nr mrowMany mroundOf mroundFrom mouts nm mfromHour mtoHour ns mfrom mto msort misFault mdeep mcoded mlines nl nc nF np ntr nb mbestCost nso nsi nit nsh nsf nss nrc jr jd mnumber mwhose msize misParted fnrc (by omega) (by omega)) si_X12_363 [0, 1] [] rfl rfl (by decide) rfl (by decide) (by decide) rfl rfl rfl rfl rfl (Nat.le_of_ble_eq_true rfl) ⟨Nat.le_of_ble_eq_true rfl, Nat.le_of_ble_eq_true rfl⟩ ⟨Nat.le_of_ble_eq_true rfl, Nat.le_of_ble_eq_true rfl⟩ dX12_bodyFrom_27 (fun r6037 u6038 H locs hr6037 hP hD hS => ?_)
  obtain ⟨jr16039, ip16040, gtrc6041⟩ := u6038
  try dsimp only at hr6037
  have hP : va_P G.1 vwCl [(h0, .inr (12, [.ref nw, .ref nk, .int mhasKept, .ref nt, .int mtaped, .ref nr, .int mrowMany, .int mroundOf, .int mroundFrom, .int mouts, .ref nm, .int mfromHour, .int mtoHour, .ref ns, .int mfrom, .int mto, .int msort, .int misFault, .int mdeep, .int mcoded, .int mlines, .ref nl, .ref nc, .ref nF, .ref np, .ref ntr, .ref nb, .int mbestCost, .ref nso, .ref nsi, .ref nit, .ref nsh, .ref nsf, .ref nss, .ref nrc, .int (nI jr16039), .int (nI jd), .int mnumber, .int mwhose, .int msize, .int ip16040])), (nrc, .inl (G.2.1, 30, .inl gtrc6041))] H := hP
  have hD : va_D A [(h0, .inr (12, [.ref nw, .ref nk, .int mhasKept, .ref nt, .int mtaped, .ref nr, .int mrowMany, .int mroundOf, .int mroundFrom, .int mouts, .ref nm, .int mfromHour, .int mtoHour, .ref ns, .int mfrom, .int mto, .int msort, .int misFault, .int mdeep, .int mcoded, .int mlines, .ref nl, .ref nc, .ref nF, .ref np, .ref ntr, .ref nb, .int mbestCost, .ref nso, .ref nsi, .ref nit, .ref nsh, .ref nsf, .ref nss, .ref nrc, .int (nI jr16039), .int (nI jd), .int mnumber, .int mwhose, .int msize, .int ip16040])), (nrc, .inl (G.2.1, 30, .inl gtrc6041))] := hD
  obtain ⟨hr6037, w6042⟩ := hr6037
  exact RI (v := r6037) hC hP hD hS [0, 1] (jr16039, ip16040, gtrc6041) rfl rfl (by decide) (⟨trivial, by omega⟩) rfl dX12_bodyFrom_30
set_option maxHeartbeats 4000000 in
set_option maxRecDepth 100000 in
theorem m_body63 (l : Launch) (G : GG) (h0 : Nat) (xx : Int32) (nw : Nat) (nk : Nat) (mhasKept : Int32) (nt : Nat) (mtaped : Int32) (nr : Nat) (mrowMany : Int32) (mroundOf : Int32) (mroundFrom : Int32) (mouts : Int32) (nm : Nat) (mfromHour : Int32) (mtoHour : Int32) (ns : Nat) (mfrom : Int32) (mto : Int32) (msort : Int32) (misFault : Int32) (mdeep : Int32) (mcoded : Int32) (mlines : Int32) (nl : Nat) (nc : Nat) (nF : Nat) (np : Nat) (ntr : Nat) (nb : Nat) (mbestCost : Int32) (nso : Nat) (nsi : Nat) (nit : Nat) (nsh : Nat) (nsf : Nat) (nss : Nat) (nrc : Nat) (jr : Nat) (jd : Nat) (mnumber : Int32) (mwhose : Int32) (msize : Int32) (misParted : Int32) (fnrc : Nat → Int32) (hjr : jr ≤ 30) (hjd : jd < 7) : MI l G yX12_body cX12_body 6 (some .int) 45 0 0 [.ref h0, .int 6, .int 3, .int xx] [(h0, .inr (12, [.ref nw, .ref nk, .int mhasKept, .ref nt, .int mtaped, .ref nr, .int mrowMany, .int mroundOf, .int mroundFrom, .int mouts, .ref nm, .int mfromHour, .int mtoHour, .ref ns, .int mfrom, .int mto, .int msort, .int misFault, .int mdeep, .int mcoded, .int mlines, .ref nl, .ref nc, .ref nF, .ref np, .ref ntr, .ref nb, .int mbestCost, .ref nso, .ref nsi, .ref nit, .ref nsh, .ref nsf, .ref nss, .ref nrc, .int (nI jr), .int (nI jd), .int mnumber, .int mwhose, .int msize, .int misParted])), (nrc, .inl (G.2.1, 30, .inl fnrc))] (fun (r : Int32) (u : Nat × Int32 × (Nat → Int32)) => (True) ∧ (u.1 ≤ 30)) (fun u : Nat × Int32 × (Nat → Int32) => [(h0, .inr (12, [.ref nw, .ref nk, .int mhasKept, .ref nt, .int mtaped, .ref nr, .int mrowMany, .int mroundOf, .int mroundFrom, .int mouts, .ref nm, .int mfromHour, .int mtoHour, .ref ns, .int mfrom, .int mto, .int msort, .int misFault, .int mdeep, .int mcoded, .int mlines, .ref nl, .ref nc, .ref nF, .ref np, .ref ntr, .ref nb, .int mbestCost, .ref nso, .ref nsi, .ref nit, .ref nsh, .ref nsf, .ref nss, .ref nrc, .int (nI u.1), .int (nI jd), .int mnumber, .int mwhose, .int msize, .int u.2.1])), (nrc, .inl (G.2.1, 30, .inl u.2.2))]) := by
  refine MI.start (by decide +kernel) (Nat.le_of_ble_eq_true rfl) ?_
  intro p e s m below meth c A ls hC hK hP hD hS hA hl
  have hl : lv_has ls 6 [(0, .ref h0), (1, .int 6), (2, .int 3), (3, .int xx)] := hl
  obtain ⟨hx, hb, hr, hml, hB, hown, hlocks, hnm⟩ := id hC
  refine lv_iconst (v := 4) hx hb dX12_body_0 (by decide) ?_
  refine lv_iload_n hx hb dX12_body_1 rfl (lv_at hl 1 rfl) ?_
  refine lv_imul hx hb dX12_body_2 ?_
  refine eqi (x1 := 24) (by decide) ?_
  refine lv_iload_n hx hb dX12_body_3 rfl (lv_at hl 2 rfl) ?_
  refine lv_iadd hx hb dX12_body_4 ?_
  refine eqi (x1 := 27) (by decide) ?_
  refine lv_tableOut (tgt := 353) hx hb dX12_body_5 (by decide) (by decide) ?_
  refine lv_aload_n hx hb dX12_body_353 rfl (lv_at hl 0 rfl) ?_
  refine lv_bipush (v := 70) hx hb dX12_body_354 (by decide) ?_
  refine vV (wr := []) hC hK hl hP hD hS hA (m_began l G h0 70 nw nk mhasKept nt mtaped nr mrowMany mroundOf mroundFrom mouts nm mfromHour mtoHour ns mfrom mto msort misFault mdeep mcoded mlines nl nc nF np ntr nb mbestCost nso nsi nit nsh nsf nss nrc jr (nI jd) mnumber mwhose msize misParted fnrc (by omega)) si_X12_366 [0, 1] [] rfl rfl (by decide) rfl (by decide) (by decide) rfl rfl rfl rfl rfl (Nat.le_of_ble_eq_true rfl) ⟨Nat.le_of_ble_eq_true rfl, Nat.le_of_ble_eq_true rfl⟩ ⟨Nat.le_of_ble_eq_true rfl, Nat.le_of_ble_eq_true rfl⟩ dX12_body_356 (fun u6044 H locs hr6043 hP hD hS => ?_)
  obtain ⟨jr16045, gtrc6046⟩ := u6044
  try dsimp only at hr6043
  have hP : va_P G.1 vwCl [(h0, .inr (12, [.ref nw, .ref nk, .int mhasKept, .ref nt, .int mtaped, .ref nr, .int mrowMany, .int mroundOf, .int mroundFrom, .int mouts, .ref nm, .int mfromHour, .int mtoHour, .ref ns, .int mfrom, .int mto, .int msort, .int misFault, .int mdeep, .int mcoded, .int mlines, .ref nl, .ref nc, .ref nF, .ref np, .ref ntr, .ref nb, .int mbestCost, .ref nso, .ref nsi, .ref nit, .ref nsh, .ref nsf, .ref nss, .ref nrc, .int (nI jr16045), .int (nI jd), .int mnumber, .int mwhose, .int msize, .int misParted])), (nrc, .inl (G.2.1, 30, .inl gtrc6046))] H := hP
  have hD : va_D A [(h0, .inr (12, [.ref nw, .ref nk, .int mhasKept, .ref nt, .int mtaped, .ref nr, .int mrowMany, .int mroundOf, .int mroundFrom, .int mouts, .ref nm, .int mfromHour, .int mtoHour, .ref ns, .int mfrom, .int mto, .int msort, .int misFault, .int mdeep, .int mcoded, .int mlines, .ref nl, .ref nc, .ref nF, .ref np, .ref ntr, .ref nb, .int mbestCost, .ref nso, .ref nsi, .ref nit, .ref nsh, .ref nsf, .ref nss, .ref nrc, .int (nI jr16045), .int (nI jd), .int mnumber, .int mwhose, .int msize, .int misParted])), (nrc, .inl (G.2.1, 30, .inl gtrc6046))] := hD
  have w6047 := hr6043
  refine lv_aload_n hx hb dX12_body_359 rfl (lv_at hl 0 rfl) ?_
  refine lv_iconst (v := 0) hx hb dX12_body_360 (by decide) ?_
  refine lv_iconst (v := 3) hx hb dX12_body_361 (by decide) ?_
  refine lv_iload_n hx hb dX12_body_362 rfl (lv_at hl 3 rfl) ?_
  refine iV (wr := []) hC hK hl hP hD hS hA (m_from03 l G h0 xx nw nk mhasKept nt mtaped nr mrowMany mroundOf mroundFrom mouts nm mfromHour mtoHour ns mfrom mto msort misFault mdeep mcoded mlines nl nc nF np ntr nb mbestCost nso nsi nit nsh nsf nss nrc jr16045 jd mnumber mwhose msize misParted gtrc6046 (by omega) (by omega)) si_X12_357 [0, 1] [] rfl rfl (by decide) rfl (by decide) (by decide) rfl rfl rfl rfl rfl (Nat.le_of_ble_eq_true rfl) ⟨Nat.le_of_ble_eq_true rfl, Nat.le_of_ble_eq_true rfl⟩ ⟨Nat.le_of_ble_eq_true rfl, Nat.le_of_ble_eq_true rfl⟩ dX12_body_363 (fun r6048 u6049 H locs hr6048 hP hD hS => ?_)
  obtain ⟨jr16050, ip16051, gtrc6052⟩ := u6049
  try dsimp only at hr6048
  have hP : va_P G.1 vwCl [(h0, .inr (12, [.ref nw, .ref nk, .int mhasKept, .ref nt, .int mtaped, .ref nr, .int mrowMany, .int mroundOf, .int mroundFrom, .int mouts, .ref nm, .int mfromHour, .int mtoHour, .ref ns, .int mfrom, .int mto, .int msort, .int misFault, .int mdeep, .int mcoded, .int mlines, .ref nl, .ref nc, .ref nF, .ref np, .ref ntr, .ref nb, .int mbestCost, .ref nso, .ref nsi, .ref nit, .ref nsh, .ref nsf, .ref nss, .ref nrc, .int (nI jr16050), .int (nI jd), .int mnumber, .int mwhose, .int msize, .int ip16051])), (nrc, .inl (G.2.1, 30, .inl gtrc6052))] H := hP
  have hD : va_D A [(h0, .inr (12, [.ref nw, .ref nk, .int mhasKept, .ref nt, .int mtaped, .ref nr, .int mrowMany, .int mroundOf, .int mroundFrom, .int mouts, .ref nm, .int mfromHour, .int mtoHour, .ref ns, .int mfrom, .int mto, .int msort, .int misFault, .int mdeep, .int mcoded, .int mlines, .ref nl, .ref nc, .ref nF, .ref np, .ref ntr, .ref nb, .int mbestCost, .ref nso, .ref nsi, .ref nit, .ref nsh, .ref nsf, .ref nss, .ref nrc, .int (nI jr16050), .int (nI jd), .int mnumber, .int mwhose, .int msize, .int ip16051])), (nrc, .inl (G.2.1, 30, .inl gtrc6052))] := hD
  obtain ⟨hr6048, w6053⟩ := hr6048
  refine lv_istore (lv' := [(5, .int r6048), (0, .ref h0), (1, .int 6), (2, .int 3), (3, .int xx)]) hx hb dX12_body_366 hl (by decide) rfl (fun ls hl => ?_)
  refine lv_aload_n hx hb dX12_body_368 rfl (lv_at hl 1 rfl) ?_
  refine gf_X12_380 hC rfl hK hP 0 rfl rfl dX12_body_369 ?_
  refine lv_if_eq (tgt := 379) hx hb dX12_body_372 (by decide) (fun c_372_6054 => ?_) (fun c_372_6054 => ?_)
  · refine lv_iload hx hb dX12_body_379 (lv_at hl 0 rfl) ?_
    refine lv_aload_n hx hb dX12_body_381 rfl (lv_at hl 1 rfl) ?_
    refine lv_iconst (v := 0) hx hb dX12_body_382 (by decide) ?_
    refine lv_aload_n hx hb dX12_body_383 rfl (lv_at hl 1 rfl) ?_
    refine gf_X12_378 hC rfl hK hP 0 rfl rfl dX12_body_384 ?_
    refine iV (wr := []) hC hK hl hP hD hS hA (m_dealt0 l G h0 mnumber nw nk mhasKept nt mtaped nr mrowMany mroundOf mroundFrom mouts nm mfromHour mtoHour ns mfrom mto msort misFault mdeep mcoded mlines nl nc nF np ntr nb mbestCost nso nsi nit nsh nsf nss nrc jr16050 jd mnumber mwhose msize ip16051 gtrc6052 (by omega) (by omega)) si_X12_372 [0, 1] [] rfl rfl (by decide) rfl (by decide) (by decide) rfl rfl rfl rfl rfl (Nat.le_of_ble_eq_true rfl) ⟨Nat.le_of_ble_eq_true rfl, Nat.le_of_ble_eq_true rfl⟩ ⟨Nat.le_of_ble_eq_true rfl, Nat.le_of_ble_eq_true rfl⟩ dX12_body_387 (fun r6055 u6056 H locs hr6055 hP hD hS => ?_)
    obtain ⟨jr16057, ip16058, gtrc6059⟩ := u6056
    try dsimp only at hr6055
    have hP : va_P G.1 vwCl [(h0, .inr (12, [.ref nw, .ref nk, .int mhasKept, .ref nt, .int mtaped, .ref nr, .int mrowMany, .int mroundOf, .int mroundFrom, .int mouts, .ref nm, .int mfromHour, .int mtoHour, .ref ns, .int mfrom, .int mto, .int msort, .int misFault, .int mdeep, .int mcoded, .int mlines, .ref nl, .ref nc, .ref nF, .ref np, .ref ntr, .ref nb, .int mbestCost, .ref nso, .ref nsi, .ref nit, .ref nsh, .ref nsf, .ref nss, .ref nrc, .int (nI jr16057), .int (nI jd), .int mnumber, .int mwhose, .int msize, .int ip16058])), (nrc, .inl (G.2.1, 30, .inl gtrc6059))] H := hP
    have hD : va_D A [(h0, .inr (12, [.ref nw, .ref nk, .int mhasKept, .ref nt, .int mtaped, .ref nr, .int mrowMany, .int mroundOf, .int mroundFrom, .int mouts, .ref nm, .int mfromHour, .int mtoHour, .ref ns, .int mfrom, .int mto, .int msort, .int misFault, .int mdeep, .int mcoded, .int mlines, .ref nl, .ref nc, .ref nF, .ref np, .ref ntr, .ref nb, .int mbestCost, .ref nso, .ref nsi, .ref nit, .ref nsh, .ref nsf, .ref nss, .ref nrc, .int (nI jr16057), .int (nI jd), .int mnumber, .int mwhose, .int msize, .int ip16058])), (nrc, .inl (G.2.1, 30, .inl gtrc6059))] := hD
    obtain ⟨hr6055, w6060⟩ := hr6055
    refine lv_isub hx hb dX12_body_390 ?_
    exact RI (v := r6048 - r6055) hC hP hD hS [0, 1] (jr16057, ip16058, gtrc6059) rfl rfl (by decide) (⟨trivial, by omega⟩) rfl dX12_body_391
  · refine lv_iconst (v := 0) hx hb dX12_body_375 (by decide) ?_
    refine lv_goto (tgt := 391) hx hb dX12_body_376 (by decide) ?_
    exact RI (v := 0) hC hP hD hS [0, 1] (jr16050, ip16051, gtrc6052) rfl rfl (by decide) (⟨trivial, by omega⟩) rfl dX12_body_391
set_option maxHeartbeats 4000000 in
set_option maxRecDepth 100000 in
theorem m_from63 (l : Launch) (G : GG) (h0 : Nat) (xx : Int32) (nw : Nat) (nk : Nat) (mhasKept : Int32) (nt : Nat) (mtaped : Int32) (nr : Nat) (mrowMany : Int32) (mroundOf : Int32) (mroundFrom : Int32) (mouts : Int32) (nm : Nat) (mfromHour : Int32) (mtoHour : Int32) (ns : Nat) (mfrom : Int32) (mto : Int32) (msort : Int32) (misFault : Int32) (mdeep : Int32) (mcoded : Int32) (mlines : Int32) (nl : Nat) (nc : Nat) (nF : Nat) (np : Nat) (ntr : Nat) (nb : Nat) (mbestCost : Int32) (nso : Nat) (nsi : Nat) (nit : Nat) (nsh : Nat) (nsf : Nat) (nss : Nat) (nrc : Nat) (jr : Nat) (jd : Nat) (mnumber : Int32) (mwhose : Int32) (msize : Int32) (misParted : Int32) (fnrc : Nat → Int32) (hjr : jr ≤ 30) (hjd : jd < 7) : MI l G yX12_bodyFrom cX12_bodyFrom 5 (some .int) 46 0 0 [.ref h0, .int 6, .int 3, .int xx] [(h0, .inr (12, [.ref nw, .ref nk, .int mhasKept, .ref nt, .int mtaped, .ref nr, .int mrowMany, .int mroundOf, .int mroundFrom, .int mouts, .ref nm, .int mfromHour, .int mtoHour, .ref ns, .int mfrom, .int mto, .int msort, .int misFault, .int mdeep, .int mcoded, .int mlines, .ref nl, .ref nc, .ref nF, .ref np, .ref ntr, .ref nb, .int mbestCost, .ref nso, .ref nsi, .ref nit, .ref nsh, .ref nsf, .ref nss, .ref nrc, .int (nI jr), .int (nI jd), .int mnumber, .int mwhose, .int msize, .int misParted])), (nrc, .inl (G.2.1, 30, .inl fnrc))] (fun (r : Int32) (u : Nat × Int32 × (Nat → Int32)) => (True) ∧ (u.1 ≤ 30)) (fun u : Nat × Int32 × (Nat → Int32) => [(h0, .inr (12, [.ref nw, .ref nk, .int mhasKept, .ref nt, .int mtaped, .ref nr, .int mrowMany, .int mroundOf, .int mroundFrom, .int mouts, .ref nm, .int mfromHour, .int mtoHour, .ref ns, .int mfrom, .int mto, .int msort, .int misFault, .int mdeep, .int mcoded, .int mlines, .ref nl, .ref nc, .ref nF, .ref np, .ref ntr, .ref nb, .int mbestCost, .ref nso, .ref nsi, .ref nit, .ref nsh, .ref nsf, .ref nss, .ref nrc, .int (nI u.1), .int (nI jd), .int mnumber, .int mwhose, .int msize, .int u.2.1])), (nrc, .inl (G.2.1, 30, .inl u.2.2))]) := by
  refine MI.start (by decide +kernel) (Nat.le_of_ble_eq_true rfl) ?_
  intro p e s m below meth c A ls hC hK hP hD hS hA hl
  have hl : lv_has ls 5 [(0, .ref h0), (1, .int 6), (2, .int 3), (3, .int xx)] := hl
  obtain ⟨hx, hb, hr, hml, hB, hown, hlocks, hnm⟩ := id hC
  refine lv_iload_n hx hb dX12_bodyFrom_0 rfl (lv_at hl 1 rfl) ?_
  refine lv_istore (lv' := [(4, .int 6), (0, .ref h0), (1, .int 6), (2, .int 3), (3, .int xx)]) hx hb dX12_bodyFrom_1 hl (by decide) rfl (fun ls hl => ?_)
  refine lv_iload hx hb dX12_bodyFrom_3 (lv_at hl 0 rfl) ?_
  refine lv_iload_n hx hb dX12_bodyFrom_5 rfl (lv_at hl 3 rfl) ?_
  refine pS hC hK hl (m_hasOwn63 l G) si_X12_360 rfl rfl (Nat.le_of_ble_eq_true rfl) ⟨Nat.le_of_ble_eq_true rfl, Nat.le_of_ble_eq_true rfl⟩ ⟨by first | exact Nat.le_of_ble_eq_true rfl | exact Nat.zero_le _, by first | exact Nat.le_of_ble_eq_true rfl | exact Nat.zero_le _⟩ dX12_bodyFrom_6 (fun r6061 hr6061 => ?_)
  obtain rfl := hr6061
  refine lv_if_ne (tgt := 22) hx hb dX12_bodyFrom_9 (by decide) (fun _ => ?_) (fun c9 => absurd c9 (by decide))
  refine lv_aload_n hx hb dX12_bodyFrom_22 rfl (lv_at hl 1 rfl) ?_
  refine lv_iload hx hb dX12_bodyFrom_23 (lv_at hl 0 rfl) ?_
  refine lv_iload_n hx hb dX12_bodyFrom_25 rfl (lv_at hl 3 rfl) ?_
  refine lv_iload_n hx hb dX12_bodyFrom_26 rfl (lv_at hl 4 rfl) ?_
  refine iV (wr := []) hC hK hl hP hD hS hA (m_body63 l G h0 xx nw nk mhasKept nt mtaped nr mrowMany mroundOf mroundFrom mouts nm mfromHour mtoHour ns mfrom mto msort misFault mdeep mcoded mlines nl nc nF np ntr nb mbestCost nso nsi nit nsh nsf nss nrc jr jd mnumber mwhose msize misParted fnrc (by omega) (by omega)) si_X12_363 [0, 1] [] rfl rfl (by decide) rfl (by decide) (by decide) rfl rfl rfl rfl rfl (Nat.le_of_ble_eq_true rfl) ⟨Nat.le_of_ble_eq_true rfl, Nat.le_of_ble_eq_true rfl⟩ ⟨Nat.le_of_ble_eq_true rfl, Nat.le_of_ble_eq_true rfl⟩ dX12_bodyFrom_27 (fun r6063 u6064 H locs hr6063 hP hD hS => ?_)
  obtain ⟨jr16065, ip16066, gtrc6067⟩ := u6064
  try dsimp only at hr6063
  have hP : va_P G.1 vwCl [(h0, .inr (12, [.ref nw, .ref nk, .int mhasKept, .ref nt, .int mtaped, .ref nr, .int mrowMany, .int mroundOf, .int mroundFrom, .int mouts, .ref nm, .int mfromHour, .int mtoHour, .ref ns, .int mfrom, .int mto, .int msort, .int misFault, .int mdeep, .int mcoded, .int mlines, .ref nl, .ref nc, .ref nF, .ref np, .ref ntr, .ref nb, .int mbestCost, .ref nso, .ref nsi, .ref nit, .ref nsh, .ref nsf, .ref nss, .ref nrc, .int (nI jr16065), .int (nI jd), .int mnumber, .int mwhose, .int msize, .int ip16066])), (nrc, .inl (G.2.1, 30, .inl gtrc6067))] H := hP
  have hD : va_D A [(h0, .inr (12, [.ref nw, .ref nk, .int mhasKept, .ref nt, .int mtaped, .ref nr, .int mrowMany, .int mroundOf, .int mroundFrom, .int mouts, .ref nm, .int mfromHour, .int mtoHour, .ref ns, .int mfrom, .int mto, .int msort, .int misFault, .int mdeep, .int mcoded, .int mlines, .ref nl, .ref nc, .ref nF, .ref np, .ref ntr, .ref nb, .int mbestCost, .ref nso, .ref nsi, .ref nit, .ref nsh, .ref nsf, .ref nss, .ref nrc, .int (nI jr16065), .int (nI jd), .int mnumber, .int mwhose, .int msize, .int ip16066])), (nrc, .inl (G.2.1, 30, .inl gtrc6067))] := hD
  obtain ⟨hr6063, w6068⟩ := hr6063
  exact RI (v := r6063) hC hP hD hS [0, 1] (jr16065, ip16066, gtrc6067) rfl rfl (by decide) (⟨trivial, by omega⟩) rfl dX12_bodyFrom_30
set_option maxHeartbeats 4000000 in
set_option maxRecDepth 100000 in
theorem m_from23 (l : Launch) (G : GG) (h0 : Nat) (xx : Int32) (nw : Nat) (nk : Nat) (mhasKept : Int32) (nt : Nat) (mtaped : Int32) (nr : Nat) (mrowMany : Int32) (mroundOf : Int32) (mroundFrom : Int32) (mouts : Int32) (nm : Nat) (mfromHour : Int32) (mtoHour : Int32) (ns : Nat) (mfrom : Int32) (mto : Int32) (msort : Int32) (misFault : Int32) (mdeep : Int32) (mcoded : Int32) (mlines : Int32) (nl : Nat) (nc : Nat) (nF : Nat) (np : Nat) (ntr : Nat) (nb : Nat) (mbestCost : Int32) (nso : Nat) (nsi : Nat) (nit : Nat) (nsh : Nat) (nsf : Nat) (nss : Nat) (nrc : Nat) (jr : Nat) (jd : Nat) (mnumber : Int32) (mwhose : Int32) (msize : Int32) (misParted : Int32) (fnrc : Nat → Int32) (hjr : jr ≤ 30) (hjd : jd < 7) : MI l G yX12_bodyFrom cX12_bodyFrom 5 (some .int) 48 0 0 [.ref h0, .int 2, .int 3, .int xx] [(h0, .inr (12, [.ref nw, .ref nk, .int mhasKept, .ref nt, .int mtaped, .ref nr, .int mrowMany, .int mroundOf, .int mroundFrom, .int mouts, .ref nm, .int mfromHour, .int mtoHour, .ref ns, .int mfrom, .int mto, .int msort, .int misFault, .int mdeep, .int mcoded, .int mlines, .ref nl, .ref nc, .ref nF, .ref np, .ref ntr, .ref nb, .int mbestCost, .ref nso, .ref nsi, .ref nit, .ref nsh, .ref nsf, .ref nss, .ref nrc, .int (nI jr), .int (nI jd), .int mnumber, .int mwhose, .int msize, .int misParted])), (nrc, .inl (G.2.1, 30, .inl fnrc))] (fun (r : Int32) (u : Nat × Int32 × (Nat → Int32)) => (True) ∧ (u.1 ≤ 30)) (fun u : Nat × Int32 × (Nat → Int32) => [(h0, .inr (12, [.ref nw, .ref nk, .int mhasKept, .ref nt, .int mtaped, .ref nr, .int mrowMany, .int mroundOf, .int mroundFrom, .int mouts, .ref nm, .int mfromHour, .int mtoHour, .ref ns, .int mfrom, .int mto, .int msort, .int misFault, .int mdeep, .int mcoded, .int mlines, .ref nl, .ref nc, .ref nF, .ref np, .ref ntr, .ref nb, .int mbestCost, .ref nso, .ref nsi, .ref nit, .ref nsh, .ref nsf, .ref nss, .ref nrc, .int (nI u.1), .int (nI jd), .int mnumber, .int mwhose, .int msize, .int u.2.1])), (nrc, .inl (G.2.1, 30, .inl u.2.2))]) := by
  refine MI.start (by decide +kernel) (Nat.le_of_ble_eq_true rfl) ?_
  intro p e s m below meth c A ls hC hK hP hD hS hA hl
  have hl : lv_has ls 5 [(0, .ref h0), (1, .int 2), (2, .int 3), (3, .int xx)] := hl
  obtain ⟨hx, hb, hr, hml, hB, hown, hlocks, hnm⟩ := id hC
  refine lv_iload_n hx hb dX12_bodyFrom_0 rfl (lv_at hl 1 rfl) ?_
  refine lv_istore (lv' := [(4, .int 2), (0, .ref h0), (1, .int 2), (2, .int 3), (3, .int xx)]) hx hb dX12_bodyFrom_1 hl (by decide) rfl (fun ls hl => ?_)
  refine lv_iload hx hb dX12_bodyFrom_3 (lv_at hl 0 rfl) ?_
  refine lv_iload_n hx hb dX12_bodyFrom_5 rfl (lv_at hl 3 rfl) ?_
  refine pS hC hK hl (m_hasOwn23 l G) si_X12_360 rfl rfl (Nat.le_of_ble_eq_true rfl) ⟨Nat.le_of_ble_eq_true rfl, Nat.le_of_ble_eq_true rfl⟩ ⟨by first | exact Nat.le_of_ble_eq_true rfl | exact Nat.zero_le _, by first | exact Nat.le_of_ble_eq_true rfl | exact Nat.zero_le _⟩ dX12_bodyFrom_6 (fun r6069 hr6069 => ?_)
  obtain rfl := hr6069
  refine lv_if_ne (tgt := 22) hx hb dX12_bodyFrom_9 (by decide) (fun c9 => absurd (by decide) c9) (fun _ => ?_)
  refine lv_iload hx hb dX12_bodyFrom_12 (lv_at hl 0 rfl) ?_
  refine pS hC hK hl (m_above2 l G) si_X12_348 rfl rfl (Nat.le_of_ble_eq_true rfl) ⟨Nat.le_of_ble_eq_true rfl, Nat.le_of_ble_eq_true rfl⟩ ⟨by first | exact Nat.le_of_ble_eq_true rfl | exact Nat.zero_le _, by first | exact Nat.le_of_ble_eq_true rfl | exact Nat.zero_le _⟩ dX12_bodyFrom_14 (fun r6071 hr6071 => ?_)
  obtain rfl := hr6071
  refine lv_istore (lv' := [(4, .int 0), (0, .ref h0), (1, .int 2), (2, .int 3), (3, .int xx)]) hx hb dX12_bodyFrom_17 hl (by decide) rfl (fun ls hl => ?_)
  refine lv_goto (tgt := 3) hx hb dX12_bodyFrom_19 (by decide) ?_
  refine lv_iload hx hb dX12_bodyFrom_3 (lv_at hl 0 rfl) ?_
  refine lv_iload_n hx hb dX12_bodyFrom_5 rfl (lv_at hl 3 rfl) ?_
  refine pS hC hK hl (m_hasOwn03 l G) si_X12_360 rfl rfl (Nat.le_of_ble_eq_true rfl) ⟨Nat.le_of_ble_eq_true rfl, Nat.le_of_ble_eq_true rfl⟩ ⟨by first | exact Nat.le_of_ble_eq_true rfl | exact Nat.zero_le _, by first | exact Nat.le_of_ble_eq_true rfl | exact Nat.zero_le _⟩ dX12_bodyFrom_6 (fun r6073 hr6073 => ?_)
  obtain rfl := hr6073
  refine lv_if_ne (tgt := 22) hx hb dX12_bodyFrom_9 (by decide) (fun _ => ?_) (fun c9 => absurd c9 (by decide))
  refine lv_aload_n hx hb dX12_bodyFrom_22 rfl (lv_at hl 1 rfl) ?_
  refine lv_iload hx hb dX12_bodyFrom_23 (lv_at hl 0 rfl) ?_
  refine lv_iload_n hx hb dX12_bodyFrom_25 rfl (lv_at hl 3 rfl) ?_
  refine lv_iload_n hx hb dX12_bodyFrom_26 rfl (lv_at hl 4 rfl) ?_
  refine iV (wr := []) hC hK hl hP hD hS hA (m_body03 l G h0 xx nw nk mhasKept nt mtaped nr mrowMany mroundOf mroundFrom mouts nm mfromHour mtoHour ns mfrom mto msort misFault mdeep mcoded mlines nl nc nF np ntr nb mbestCost nso nsi nit nsh nsf nss nrc jr jd mnumber mwhose msize misParted fnrc (by omega) (by omega)) si_X12_363 [0, 1] [] rfl rfl (by decide) rfl (by decide) (by decide) rfl rfl rfl rfl rfl (Nat.le_of_ble_eq_true rfl) ⟨Nat.le_of_ble_eq_true rfl, Nat.le_of_ble_eq_true rfl⟩ ⟨Nat.le_of_ble_eq_true rfl, Nat.le_of_ble_eq_true rfl⟩ dX12_bodyFrom_27 (fun r6075 u6076 H locs hr6075 hP hD hS => ?_)
  obtain ⟨jr16077, ip16078, gtrc6079⟩ := u6076
  try dsimp only at hr6075
  have hP : va_P G.1 vwCl [(h0, .inr (12, [.ref nw, .ref nk, .int mhasKept, .ref nt, .int mtaped, .ref nr, .int mrowMany, .int mroundOf, .int mroundFrom, .int mouts, .ref nm, .int mfromHour, .int mtoHour, .ref ns, .int mfrom, .int mto, .int msort, .int misFault, .int mdeep, .int mcoded, .int mlines, .ref nl, .ref nc, .ref nF, .ref np, .ref ntr, .ref nb, .int mbestCost, .ref nso, .ref nsi, .ref nit, .ref nsh, .ref nsf, .ref nss, .ref nrc, .int (nI jr16077), .int (nI jd), .int mnumber, .int mwhose, .int msize, .int ip16078])), (nrc, .inl (G.2.1, 30, .inl gtrc6079))] H := hP
  have hD : va_D A [(h0, .inr (12, [.ref nw, .ref nk, .int mhasKept, .ref nt, .int mtaped, .ref nr, .int mrowMany, .int mroundOf, .int mroundFrom, .int mouts, .ref nm, .int mfromHour, .int mtoHour, .ref ns, .int mfrom, .int mto, .int msort, .int misFault, .int mdeep, .int mcoded, .int mlines, .ref nl, .ref nc, .ref nF, .ref np, .ref ntr, .ref nb, .int mbestCost, .ref nso, .ref nsi, .ref nit, .ref nsh, .ref nsf, .ref nss, .ref nrc, .int (nI jr16077), .int (nI jd), .int mnumber, .int mwhose, .int msize, .int ip16078])), (nrc, .inl (G.2.1, 30, .inl gtrc6079))] := hD
  obtain ⟨hr6075, w6080⟩ := hr6075
  exact RI (v := r6075) hC hP hD hS [0, 1] (jr16077, ip16078, gtrc6079) rfl rfl (by decide) (⟨trivial, by omega⟩) rfl dX12_bodyFrom_30
set_option maxHeartbeats 4000000 in
set_option maxRecDepth 100000 in
theorem m_from43 (l : Launch) (G : GG) (h0 : Nat) (xx : Int32) (nw : Nat) (nk : Nat) (mhasKept : Int32) (nt : Nat) (mtaped : Int32) (nr : Nat) (mrowMany : Int32) (mroundOf : Int32) (mroundFrom : Int32) (mouts : Int32) (nm : Nat) (mfromHour : Int32) (mtoHour : Int32) (ns : Nat) (mfrom : Int32) (mto : Int32) (msort : Int32) (misFault : Int32) (mdeep : Int32) (mcoded : Int32) (mlines : Int32) (nl : Nat) (nc : Nat) (nF : Nat) (np : Nat) (ntr : Nat) (nb : Nat) (mbestCost : Int32) (nso : Nat) (nsi : Nat) (nit : Nat) (nsh : Nat) (nsf : Nat) (nss : Nat) (nrc : Nat) (jr : Nat) (jd : Nat) (mnumber : Int32) (mwhose : Int32) (msize : Int32) (misParted : Int32) (fnrc : Nat → Int32) (hjr : jr ≤ 30) (hjd : jd < 7) : MI l G yX12_bodyFrom cX12_bodyFrom 5 (some .int) 48 0 0 [.ref h0, .int 4, .int 3, .int xx] [(h0, .inr (12, [.ref nw, .ref nk, .int mhasKept, .ref nt, .int mtaped, .ref nr, .int mrowMany, .int mroundOf, .int mroundFrom, .int mouts, .ref nm, .int mfromHour, .int mtoHour, .ref ns, .int mfrom, .int mto, .int msort, .int misFault, .int mdeep, .int mcoded, .int mlines, .ref nl, .ref nc, .ref nF, .ref np, .ref ntr, .ref nb, .int mbestCost, .ref nso, .ref nsi, .ref nit, .ref nsh, .ref nsf, .ref nss, .ref nrc, .int (nI jr), .int (nI jd), .int mnumber, .int mwhose, .int msize, .int misParted])), (nrc, .inl (G.2.1, 30, .inl fnrc))] (fun (r : Int32) (u : Nat × Int32 × (Nat → Int32)) => (True) ∧ (u.1 ≤ 30)) (fun u : Nat × Int32 × (Nat → Int32) => [(h0, .inr (12, [.ref nw, .ref nk, .int mhasKept, .ref nt, .int mtaped, .ref nr, .int mrowMany, .int mroundOf, .int mroundFrom, .int mouts, .ref nm, .int mfromHour, .int mtoHour, .ref ns, .int mfrom, .int mto, .int msort, .int misFault, .int mdeep, .int mcoded, .int mlines, .ref nl, .ref nc, .ref nF, .ref np, .ref ntr, .ref nb, .int mbestCost, .ref nso, .ref nsi, .ref nit, .ref nsh, .ref nsf, .ref nss, .ref nrc, .int (nI u.1), .int (nI jd), .int mnumber, .int mwhose, .int msize, .int u.2.1])), (nrc, .inl (G.2.1, 30, .inl u.2.2))]) := by
  refine MI.start (by decide +kernel) (Nat.le_of_ble_eq_true rfl) ?_
  intro p e s m below meth c A ls hC hK hP hD hS hA hl
  have hl : lv_has ls 5 [(0, .ref h0), (1, .int 4), (2, .int 3), (3, .int xx)] := hl
  obtain ⟨hx, hb, hr, hml, hB, hown, hlocks, hnm⟩ := id hC
  refine lv_iload_n hx hb dX12_bodyFrom_0 rfl (lv_at hl 1 rfl) ?_
  refine lv_istore (lv' := [(4, .int 4), (0, .ref h0), (1, .int 4), (2, .int 3), (3, .int xx)]) hx hb dX12_bodyFrom_1 hl (by decide) rfl (fun ls hl => ?_)
  refine lv_iload hx hb dX12_bodyFrom_3 (lv_at hl 0 rfl) ?_
  refine lv_iload_n hx hb dX12_bodyFrom_5 rfl (lv_at hl 3 rfl) ?_
  refine pS hC hK hl (m_hasOwn43 l G) si_X12_360 rfl rfl (Nat.le_of_ble_eq_true rfl) ⟨Nat.le_of_ble_eq_true rfl, Nat.le_of_ble_eq_true rfl⟩ ⟨by first | exact Nat.le_of_ble_eq_true rfl | exact Nat.zero_le _, by first | exact Nat.le_of_ble_eq_true rfl | exact Nat.zero_le _⟩ dX12_bodyFrom_6 (fun r6081 hr6081 => ?_)
  obtain rfl := hr6081
  refine lv_if_ne (tgt := 22) hx hb dX12_bodyFrom_9 (by decide) (fun c9 => absurd (by decide) c9) (fun _ => ?_)
  refine lv_iload hx hb dX12_bodyFrom_12 (lv_at hl 0 rfl) ?_
  refine pS hC hK hl (m_above4 l G) si_X12_348 rfl rfl (Nat.le_of_ble_eq_true rfl) ⟨Nat.le_of_ble_eq_true rfl, Nat.le_of_ble_eq_true rfl⟩ ⟨by first | exact Nat.le_of_ble_eq_true rfl | exact Nat.zero_le _, by first | exact Nat.le_of_ble_eq_true rfl | exact Nat.zero_le _⟩ dX12_bodyFrom_14 (fun r6083 hr6083 => ?_)
  obtain rfl := hr6083
  refine lv_istore (lv' := [(4, .int 0), (0, .ref h0), (1, .int 4), (2, .int 3), (3, .int xx)]) hx hb dX12_bodyFrom_17 hl (by decide) rfl (fun ls hl => ?_)
  refine lv_goto (tgt := 3) hx hb dX12_bodyFrom_19 (by decide) ?_
  refine lv_iload hx hb dX12_bodyFrom_3 (lv_at hl 0 rfl) ?_
  refine lv_iload_n hx hb dX12_bodyFrom_5 rfl (lv_at hl 3 rfl) ?_
  refine pS hC hK hl (m_hasOwn03 l G) si_X12_360 rfl rfl (Nat.le_of_ble_eq_true rfl) ⟨Nat.le_of_ble_eq_true rfl, Nat.le_of_ble_eq_true rfl⟩ ⟨by first | exact Nat.le_of_ble_eq_true rfl | exact Nat.zero_le _, by first | exact Nat.le_of_ble_eq_true rfl | exact Nat.zero_le _⟩ dX12_bodyFrom_6 (fun r6085 hr6085 => ?_)
  obtain rfl := hr6085
  refine lv_if_ne (tgt := 22) hx hb dX12_bodyFrom_9 (by decide) (fun _ => ?_) (fun c9 => absurd c9 (by decide))
  refine lv_aload_n hx hb dX12_bodyFrom_22 rfl (lv_at hl 1 rfl) ?_
  refine lv_iload hx hb dX12_bodyFrom_23 (lv_at hl 0 rfl) ?_
  refine lv_iload_n hx hb dX12_bodyFrom_25 rfl (lv_at hl 3 rfl) ?_
  refine lv_iload_n hx hb dX12_bodyFrom_26 rfl (lv_at hl 4 rfl) ?_
  refine iV (wr := []) hC hK hl hP hD hS hA (m_body03 l G h0 xx nw nk mhasKept nt mtaped nr mrowMany mroundOf mroundFrom mouts nm mfromHour mtoHour ns mfrom mto msort misFault mdeep mcoded mlines nl nc nF np ntr nb mbestCost nso nsi nit nsh nsf nss nrc jr jd mnumber mwhose msize misParted fnrc (by omega) (by omega)) si_X12_363 [0, 1] [] rfl rfl (by decide) rfl (by decide) (by decide) rfl rfl rfl rfl rfl (Nat.le_of_ble_eq_true rfl) ⟨Nat.le_of_ble_eq_true rfl, Nat.le_of_ble_eq_true rfl⟩ ⟨Nat.le_of_ble_eq_true rfl, Nat.le_of_ble_eq_true rfl⟩ dX12_bodyFrom_27 (fun r6087 u6088 H locs hr6087 hP hD hS => ?_)
  obtain ⟨jr16089, ip16090, gtrc6091⟩ := u6088
  try dsimp only at hr6087
  have hP : va_P G.1 vwCl [(h0, .inr (12, [.ref nw, .ref nk, .int mhasKept, .ref nt, .int mtaped, .ref nr, .int mrowMany, .int mroundOf, .int mroundFrom, .int mouts, .ref nm, .int mfromHour, .int mtoHour, .ref ns, .int mfrom, .int mto, .int msort, .int misFault, .int mdeep, .int mcoded, .int mlines, .ref nl, .ref nc, .ref nF, .ref np, .ref ntr, .ref nb, .int mbestCost, .ref nso, .ref nsi, .ref nit, .ref nsh, .ref nsf, .ref nss, .ref nrc, .int (nI jr16089), .int (nI jd), .int mnumber, .int mwhose, .int msize, .int ip16090])), (nrc, .inl (G.2.1, 30, .inl gtrc6091))] H := hP
  have hD : va_D A [(h0, .inr (12, [.ref nw, .ref nk, .int mhasKept, .ref nt, .int mtaped, .ref nr, .int mrowMany, .int mroundOf, .int mroundFrom, .int mouts, .ref nm, .int mfromHour, .int mtoHour, .ref ns, .int mfrom, .int mto, .int msort, .int misFault, .int mdeep, .int mcoded, .int mlines, .ref nl, .ref nc, .ref nF, .ref np, .ref ntr, .ref nb, .int mbestCost, .ref nso, .ref nsi, .ref nit, .ref nsh, .ref nsf, .ref nss, .ref nrc, .int (nI jr16089), .int (nI jd), .int mnumber, .int mwhose, .int msize, .int ip16090])), (nrc, .inl (G.2.1, 30, .inl gtrc6091))] := hD
  obtain ⟨hr6087, w6092⟩ := hr6087
  exact RI (v := r6087) hC hP hD hS [0, 1] (jr16089, ip16090, gtrc6091) rfl rfl (by decide) (⟨trivial, by omega⟩) rfl dX12_bodyFrom_30
set_option maxHeartbeats 4000000 in
set_option maxRecDepth 100000 in
theorem m_from53 (l : Launch) (G : GG) (h0 : Nat) (xx : Int32) (nw : Nat) (nk : Nat) (mhasKept : Int32) (nt : Nat) (mtaped : Int32) (nr : Nat) (mrowMany : Int32) (mroundOf : Int32) (mroundFrom : Int32) (mouts : Int32) (nm : Nat) (mfromHour : Int32) (mtoHour : Int32) (ns : Nat) (mfrom : Int32) (mto : Int32) (msort : Int32) (misFault : Int32) (mdeep : Int32) (mcoded : Int32) (mlines : Int32) (nl : Nat) (nc : Nat) (nF : Nat) (np : Nat) (ntr : Nat) (nb : Nat) (mbestCost : Int32) (nso : Nat) (nsi : Nat) (nit : Nat) (nsh : Nat) (nsf : Nat) (nss : Nat) (nrc : Nat) (jr : Nat) (jd : Nat) (mnumber : Int32) (mwhose : Int32) (msize : Int32) (misParted : Int32) (fnrc : Nat → Int32) (hjr : jr ≤ 30) (hjd : jd < 7) : MI l G yX12_bodyFrom cX12_bodyFrom 5 (some .int) 48 0 0 [.ref h0, .int 5, .int 3, .int xx] [(h0, .inr (12, [.ref nw, .ref nk, .int mhasKept, .ref nt, .int mtaped, .ref nr, .int mrowMany, .int mroundOf, .int mroundFrom, .int mouts, .ref nm, .int mfromHour, .int mtoHour, .ref ns, .int mfrom, .int mto, .int msort, .int misFault, .int mdeep, .int mcoded, .int mlines, .ref nl, .ref nc, .ref nF, .ref np, .ref ntr, .ref nb, .int mbestCost, .ref nso, .ref nsi, .ref nit, .ref nsh, .ref nsf, .ref nss, .ref nrc, .int (nI jr), .int (nI jd), .int mnumber, .int mwhose, .int msize, .int misParted])), (nrc, .inl (G.2.1, 30, .inl fnrc))] (fun (r : Int32) (u : Nat × Int32 × (Nat → Int32)) => (True) ∧ (u.1 ≤ 30)) (fun u : Nat × Int32 × (Nat → Int32) => [(h0, .inr (12, [.ref nw, .ref nk, .int mhasKept, .ref nt, .int mtaped, .ref nr, .int mrowMany, .int mroundOf, .int mroundFrom, .int mouts, .ref nm, .int mfromHour, .int mtoHour, .ref ns, .int mfrom, .int mto, .int msort, .int misFault, .int mdeep, .int mcoded, .int mlines, .ref nl, .ref nc, .ref nF, .ref np, .ref ntr, .ref nb, .int mbestCost, .ref nso, .ref nsi, .ref nit, .ref nsh, .ref nsf, .ref nss, .ref nrc, .int (nI u.1), .int (nI jd), .int mnumber, .int mwhose, .int msize, .int u.2.1])), (nrc, .inl (G.2.1, 30, .inl u.2.2))]) := by
  refine MI.start (by decide +kernel) (Nat.le_of_ble_eq_true rfl) ?_
  intro p e s m below meth c A ls hC hK hP hD hS hA hl
  have hl : lv_has ls 5 [(0, .ref h0), (1, .int 5), (2, .int 3), (3, .int xx)] := hl
  obtain ⟨hx, hb, hr, hml, hB, hown, hlocks, hnm⟩ := id hC
  refine lv_iload_n hx hb dX12_bodyFrom_0 rfl (lv_at hl 1 rfl) ?_
  refine lv_istore (lv' := [(4, .int 5), (0, .ref h0), (1, .int 5), (2, .int 3), (3, .int xx)]) hx hb dX12_bodyFrom_1 hl (by decide) rfl (fun ls hl => ?_)
  refine lv_iload hx hb dX12_bodyFrom_3 (lv_at hl 0 rfl) ?_
  refine lv_iload_n hx hb dX12_bodyFrom_5 rfl (lv_at hl 3 rfl) ?_
  refine pS hC hK hl (m_hasOwn53 l G) si_X12_360 rfl rfl (Nat.le_of_ble_eq_true rfl) ⟨Nat.le_of_ble_eq_true rfl, Nat.le_of_ble_eq_true rfl⟩ ⟨by first | exact Nat.le_of_ble_eq_true rfl | exact Nat.zero_le _, by first | exact Nat.le_of_ble_eq_true rfl | exact Nat.zero_le _⟩ dX12_bodyFrom_6 (fun r6093 hr6093 => ?_)
  obtain rfl := hr6093
  refine lv_if_ne (tgt := 22) hx hb dX12_bodyFrom_9 (by decide) (fun c9 => absurd (by decide) c9) (fun _ => ?_)
  refine lv_iload hx hb dX12_bodyFrom_12 (lv_at hl 0 rfl) ?_
  refine pS hC hK hl (m_above5 l G) si_X12_348 rfl rfl (Nat.le_of_ble_eq_true rfl) ⟨Nat.le_of_ble_eq_true rfl, Nat.le_of_ble_eq_true rfl⟩ ⟨by first | exact Nat.le_of_ble_eq_true rfl | exact Nat.zero_le _, by first | exact Nat.le_of_ble_eq_true rfl | exact Nat.zero_le _⟩ dX12_bodyFrom_14 (fun r6095 hr6095 => ?_)
  obtain rfl := hr6095
  refine lv_istore (lv' := [(4, .int 4), (0, .ref h0), (1, .int 5), (2, .int 3), (3, .int xx)]) hx hb dX12_bodyFrom_17 hl (by decide) rfl (fun ls hl => ?_)
  refine lv_goto (tgt := 3) hx hb dX12_bodyFrom_19 (by decide) ?_
  refine lv_iload hx hb dX12_bodyFrom_3 (lv_at hl 0 rfl) ?_
  refine lv_iload_n hx hb dX12_bodyFrom_5 rfl (lv_at hl 3 rfl) ?_
  refine pS hC hK hl (m_hasOwn43 l G) si_X12_360 rfl rfl (Nat.le_of_ble_eq_true rfl) ⟨Nat.le_of_ble_eq_true rfl, Nat.le_of_ble_eq_true rfl⟩ ⟨by first | exact Nat.le_of_ble_eq_true rfl | exact Nat.zero_le _, by first | exact Nat.le_of_ble_eq_true rfl | exact Nat.zero_le _⟩ dX12_bodyFrom_6 (fun r6097 hr6097 => ?_)
  obtain rfl := hr6097
  refine lv_if_ne (tgt := 22) hx hb dX12_bodyFrom_9 (by decide) (fun c9 => absurd (by decide) c9) (fun _ => ?_)
  refine lv_iload hx hb dX12_bodyFrom_12 (lv_at hl 0 rfl) ?_
  refine pS hC hK hl (m_above4 l G) si_X12_348 rfl rfl (Nat.le_of_ble_eq_true rfl) ⟨Nat.le_of_ble_eq_true rfl, Nat.le_of_ble_eq_true rfl⟩ ⟨by first | exact Nat.le_of_ble_eq_true rfl | exact Nat.zero_le _, by first | exact Nat.le_of_ble_eq_true rfl | exact Nat.zero_le _⟩ dX12_bodyFrom_14 (fun r6099 hr6099 => ?_)
  obtain rfl := hr6099
  refine lv_istore (lv' := [(4, .int 0), (0, .ref h0), (1, .int 5), (2, .int 3), (3, .int xx)]) hx hb dX12_bodyFrom_17 hl (by decide) rfl (fun ls hl => ?_)
  refine lv_goto (tgt := 3) hx hb dX12_bodyFrom_19 (by decide) ?_
  refine lv_iload hx hb dX12_bodyFrom_3 (lv_at hl 0 rfl) ?_
  refine lv_iload_n hx hb dX12_bodyFrom_5 rfl (lv_at hl 3 rfl) ?_
  refine pS hC hK hl (m_hasOwn03 l G) si_X12_360 rfl rfl (Nat.le_of_ble_eq_true rfl) ⟨Nat.le_of_ble_eq_true rfl, Nat.le_of_ble_eq_true rfl⟩ ⟨by first | exact Nat.le_of_ble_eq_true rfl | exact Nat.zero_le _, by first | exact Nat.le_of_ble_eq_true rfl | exact Nat.zero_le _⟩ dX12_bodyFrom_6 (fun r6101 hr6101 => ?_)
  obtain rfl := hr6101
  refine lv_if_ne (tgt := 22) hx hb dX12_bodyFrom_9 (by decide) (fun _ => ?_) (fun c9 => absurd c9 (by decide))
  refine lv_aload_n hx hb dX12_bodyFrom_22 rfl (lv_at hl 1 rfl) ?_
  refine lv_iload hx hb dX12_bodyFrom_23 (lv_at hl 0 rfl) ?_
  refine lv_iload_n hx hb dX12_bodyFrom_25 rfl (lv_at hl 3 rfl) ?_
  refine lv_iload_n hx hb dX12_bodyFrom_26 rfl (lv_at hl 4 rfl) ?_
  refine iV (wr := []) hC hK hl hP hD hS hA (m_body03 l G h0 xx nw nk mhasKept nt mtaped nr mrowMany mroundOf mroundFrom mouts nm mfromHour mtoHour ns mfrom mto msort misFault mdeep mcoded mlines nl nc nF np ntr nb mbestCost nso nsi nit nsh nsf nss nrc jr jd mnumber mwhose msize misParted fnrc (by omega) (by omega)) si_X12_363 [0, 1] [] rfl rfl (by decide) rfl (by decide) (by decide) rfl rfl rfl rfl rfl (Nat.le_of_ble_eq_true rfl) ⟨Nat.le_of_ble_eq_true rfl, Nat.le_of_ble_eq_true rfl⟩ ⟨Nat.le_of_ble_eq_true rfl, Nat.le_of_ble_eq_true rfl⟩ dX12_bodyFrom_27 (fun r6103 u6104 H locs hr6103 hP hD hS => ?_)
  obtain ⟨jr16105, ip16106, gtrc6107⟩ := u6104
  try dsimp only at hr6103
  have hP : va_P G.1 vwCl [(h0, .inr (12, [.ref nw, .ref nk, .int mhasKept, .ref nt, .int mtaped, .ref nr, .int mrowMany, .int mroundOf, .int mroundFrom, .int mouts, .ref nm, .int mfromHour, .int mtoHour, .ref ns, .int mfrom, .int mto, .int msort, .int misFault, .int mdeep, .int mcoded, .int mlines, .ref nl, .ref nc, .ref nF, .ref np, .ref ntr, .ref nb, .int mbestCost, .ref nso, .ref nsi, .ref nit, .ref nsh, .ref nsf, .ref nss, .ref nrc, .int (nI jr16105), .int (nI jd), .int mnumber, .int mwhose, .int msize, .int ip16106])), (nrc, .inl (G.2.1, 30, .inl gtrc6107))] H := hP
  have hD : va_D A [(h0, .inr (12, [.ref nw, .ref nk, .int mhasKept, .ref nt, .int mtaped, .ref nr, .int mrowMany, .int mroundOf, .int mroundFrom, .int mouts, .ref nm, .int mfromHour, .int mtoHour, .ref ns, .int mfrom, .int mto, .int msort, .int misFault, .int mdeep, .int mcoded, .int mlines, .ref nl, .ref nc, .ref nF, .ref np, .ref ntr, .ref nb, .int mbestCost, .ref nso, .ref nsi, .ref nit, .ref nsh, .ref nsf, .ref nss, .ref nrc, .int (nI jr16105), .int (nI jd), .int mnumber, .int mwhose, .int msize, .int ip16106])), (nrc, .inl (G.2.1, 30, .inl gtrc6107))] := hD
  obtain ⟨hr6103, w6108⟩ := hr6103
  exact RI (v := r6103) hC hP hD hS [0, 1] (jr16105, ip16106, gtrc6107) rfl rfl (by decide) (⟨trivial, by omega⟩) rfl dX12_bodyFrom_30
set_option maxHeartbeats 4000000 in
set_option maxRecDepth 100000 in
theorem m_dealt3 (l : Launch) (G : GG) (h0 : Nat) (xx : Int32) (nw : Nat) (nk : Nat) (mhasKept : Int32) (nt : Nat) (mtaped : Int32) (nr : Nat) (mrowMany : Int32) (mroundOf : Int32) (mroundFrom : Int32) (mouts : Int32) (nm : Nat) (mfromHour : Int32) (mtoHour : Int32) (ns : Nat) (mfrom : Int32) (mto : Int32) (msort : Int32) (misFault : Int32) (mdeep : Int32) (mcoded : Int32) (mlines : Int32) (nl : Nat) (nc : Nat) (nF : Nat) (np : Nat) (ntr : Nat) (nb : Nat) (mbestCost : Int32) (nso : Nat) (nsi : Nat) (nit : Nat) (nsh : Nat) (nsf : Nat) (nss : Nat) (nrc : Nat) (jr : Nat) (jd : Nat) (mnumber : Int32) (mwhose : Int32) (msize : Int32) (misParted : Int32) (fnrc : Nat → Int32) (hjr : jr ≤ 30) (hjd : jd < 7) : MI l G yX12_dealt cX12_dealt 3 (some .int) 50 0 0 [.ref h0, .int 3, .int xx] [(h0, .inr (12, [.ref nw, .ref nk, .int mhasKept, .ref nt, .int mtaped, .ref nr, .int mrowMany, .int mroundOf, .int mroundFrom, .int mouts, .ref nm, .int mfromHour, .int mtoHour, .ref ns, .int mfrom, .int mto, .int msort, .int misFault, .int mdeep, .int mcoded, .int mlines, .ref nl, .ref nc, .ref nF, .ref np, .ref ntr, .ref nb, .int mbestCost, .ref nso, .ref nsi, .ref nit, .ref nsh, .ref nsf, .ref nss, .ref nrc, .int (nI jr), .int (nI jd), .int mnumber, .int mwhose, .int msize, .int misParted])), (nrc, .inl (G.2.1, 30, .inl fnrc))] (fun (r : Int32) (u : Nat × Int32 × (Nat → Int32)) => (True) ∧ (u.1 ≤ 30)) (fun u : Nat × Int32 × (Nat → Int32) => [(h0, .inr (12, [.ref nw, .ref nk, .int mhasKept, .ref nt, .int mtaped, .ref nr, .int mrowMany, .int mroundOf, .int mroundFrom, .int mouts, .ref nm, .int mfromHour, .int mtoHour, .ref ns, .int mfrom, .int mto, .int msort, .int misFault, .int mdeep, .int mcoded, .int mlines, .ref nl, .ref nc, .ref nF, .ref np, .ref ntr, .ref nb, .int mbestCost, .ref nso, .ref nsi, .ref nit, .ref nsh, .ref nsf, .ref nss, .ref nrc, .int (nI u.1), .int (nI jd), .int mnumber, .int mwhose, .int msize, .int u.2.1])), (nrc, .inl (G.2.1, 30, .inl u.2.2))]) := by
  refine MI.start (by decide +kernel) (Nat.le_of_ble_eq_true rfl) ?_
  intro p e s m below meth c A ls hC hK hP hD hS hA hl
  have hl : lv_has ls 3 [(0, .ref h0), (1, .int 3), (2, .int xx)] := hl
  obtain ⟨hx, hb, hr, hml, hB, hown, hlocks, hnm⟩ := id hC
  refine lv_aload_n hx hb dX12_dealt_0 rfl (lv_at hl 0 rfl) ?_
  refine lv_aload_n hx hb dX12_dealt_1 rfl (lv_at hl 0 rfl) ?_
  refine gf_X12_354 hC rfl hK hP 0 rfl rfl dX12_dealt_2 ?_
  refine lv_iload_n hx hb dX12_dealt_5 rfl (lv_at hl 1 rfl) ?_
  refine lv_iload_n hx hb dX12_dealt_6 rfl (lv_at hl 2 rfl) ?_
  rcases (show jd = 0 ∨ jd = 1 ∨ jd = 2 ∨ jd = 3 ∨ jd = 4 ∨ jd = 5 ∨ jd = 6 by omega) with rfl | rfl | rfl | rfl | rfl | rfl | rfl
  · refine iV (wr := []) hC hK hl hP hD hS hA (m_from03 l G h0 xx nw nk mhasKept nt mtaped nr mrowMany mroundOf mroundFrom mouts nm mfromHour mtoHour ns mfrom mto msort misFault mdeep mcoded mlines nl nc nF np ntr nb mbestCost nso nsi nit nsh nsf nss nrc jr 0 mnumber mwhose msize misParted fnrc (by omega) (by omega)) si_X12_357 [0, 1] [] rfl rfl (by decide) rfl (by decide) (by decide) rfl rfl rfl rfl rfl (Nat.le_of_ble_eq_true rfl) ⟨Nat.le_of_ble_eq_true rfl, Nat.le_of_ble_eq_true rfl⟩ ⟨Nat.le_of_ble_eq_true rfl, Nat.le_of_ble_eq_true rfl⟩ dX12_dealt_7 (fun r6109 u6110 H locs hr6109 hP hD hS => ?_)
    obtain ⟨jr16111, ip16112, gtrc6113⟩ := u6110
    try dsimp only at hr6109
    have hP : va_P G.1 vwCl [(h0, .inr (12, [.ref nw, .ref nk, .int mhasKept, .ref nt, .int mtaped, .ref nr, .int mrowMany, .int mroundOf, .int mroundFrom, .int mouts, .ref nm, .int mfromHour, .int mtoHour, .ref ns, .int mfrom, .int mto, .int msort, .int misFault, .int mdeep, .int mcoded, .int mlines, .ref nl, .ref nc, .ref nF, .ref np, .ref ntr, .ref nb, .int mbestCost, .ref nso, .ref nsi, .ref nit, .ref nsh, .ref nsf, .ref nss, .ref nrc, .int (nI jr16111), .int 0, .int mnumber, .int mwhose, .int msize, .int ip16112])), (nrc, .inl (G.2.1, 30, .inl gtrc6113))] H := hP
    have hD : va_D A [(h0, .inr (12, [.ref nw, .ref nk, .int mhasKept, .ref nt, .int mtaped, .ref nr, .int mrowMany, .int mroundOf, .int mroundFrom, .int mouts, .ref nm, .int mfromHour, .int mtoHour, .ref ns, .int mfrom, .int mto, .int msort, .int misFault, .int mdeep, .int mcoded, .int mlines, .ref nl, .ref nc, .ref nF, .ref np, .ref ntr, .ref nb, .int mbestCost, .ref nso, .ref nsi, .ref nit, .ref nsh, .ref nsf, .ref nss, .ref nrc, .int (nI jr16111), .int 0, .int mnumber, .int mwhose, .int msize, .int ip16112])), (nrc, .inl (G.2.1, 30, .inl gtrc6113))] := hD
    obtain ⟨hr6109, w6114⟩ := hr6109
    exact RI (v := r6109) hC hP hD hS [0, 1] (jr16111, ip16112, gtrc6113) rfl rfl (by decide) (⟨trivial, by omega⟩) rfl dX12_dealt_10
  · refine iV (wr := []) hC hK hl hP hD hS hA (m_from13 l G h0 xx nw nk mhasKept nt mtaped nr mrowMany mroundOf mroundFrom mouts nm mfromHour mtoHour ns mfrom mto msort misFault mdeep mcoded mlines nl nc nF np ntr nb mbestCost nso nsi nit nsh nsf nss nrc jr 1 mnumber mwhose msize misParted fnrc (by omega) (by omega)) si_X12_357 [0, 1] [] rfl rfl (by decide) rfl (by decide) (by decide) rfl rfl rfl rfl rfl (Nat.le_of_ble_eq_true rfl) ⟨Nat.le_of_ble_eq_true rfl, Nat.le_of_ble_eq_true rfl⟩ ⟨Nat.le_of_ble_eq_true rfl, Nat.le_of_ble_eq_true rfl⟩ dX12_dealt_7 (fun r6115 u6116 H locs hr6115 hP hD hS => ?_)
    obtain ⟨jr16117, ip16118, gtrc6119⟩ := u6116
    try dsimp only at hr6115
    have hP : va_P G.1 vwCl [(h0, .inr (12, [.ref nw, .ref nk, .int mhasKept, .ref nt, .int mtaped, .ref nr, .int mrowMany, .int mroundOf, .int mroundFrom, .int mouts, .ref nm, .int mfromHour, .int mtoHour, .ref ns, .int mfrom, .int mto, .int msort, .int misFault, .int mdeep, .int mcoded, .int mlines, .ref nl, .ref nc, .ref nF, .ref np, .ref ntr, .ref nb, .int mbestCost, .ref nso, .ref nsi, .ref nit, .ref nsh, .ref nsf, .ref nss, .ref nrc, .int (nI jr16117), .int 1, .int mnumber, .int mwhose, .int msize, .int ip16118])), (nrc, .inl (G.2.1, 30, .inl gtrc6119))] H := hP
    have hD : va_D A [(h0, .inr (12, [.ref nw, .ref nk, .int mhasKept, .ref nt, .int mtaped, .ref nr, .int mrowMany, .int mroundOf, .int mroundFrom, .int mouts, .ref nm, .int mfromHour, .int mtoHour, .ref ns, .int mfrom, .int mto, .int msort, .int misFault, .int mdeep, .int mcoded, .int mlines, .ref nl, .ref nc, .ref nF, .ref np, .ref ntr, .ref nb, .int mbestCost, .ref nso, .ref nsi, .ref nit, .ref nsh, .ref nsf, .ref nss, .ref nrc, .int (nI jr16117), .int 1, .int mnumber, .int mwhose, .int msize, .int ip16118])), (nrc, .inl (G.2.1, 30, .inl gtrc6119))] := hD
    obtain ⟨hr6115, w6120⟩ := hr6115
    exact RI (v := r6115) hC hP hD hS [0, 1] (jr16117, ip16118, gtrc6119) rfl rfl (by decide) (⟨trivial, by omega⟩) rfl dX12_dealt_10
  · refine iV (wr := []) hC hK hl hP hD hS hA (m_from23 l G h0 xx nw nk mhasKept nt mtaped nr mrowMany mroundOf mroundFrom mouts nm mfromHour mtoHour ns mfrom mto msort misFault mdeep mcoded mlines nl nc nF np ntr nb mbestCost nso nsi nit nsh nsf nss nrc jr 2 mnumber mwhose msize misParted fnrc (by omega) (by omega)) si_X12_357 [0, 1] [] rfl rfl (by decide) rfl (by decide) (by decide) rfl rfl rfl rfl rfl (Nat.le_of_ble_eq_true rfl) ⟨Nat.le_of_ble_eq_true rfl, Nat.le_of_ble_eq_true rfl⟩ ⟨Nat.le_of_ble_eq_true rfl, Nat.le_of_ble_eq_true rfl⟩ dX12_dealt_7 (fun r6121 u6122 H locs hr6121 hP hD hS => ?_)
    obtain ⟨jr16123, ip16124, gtrc6125⟩ := u6122
    try dsimp only at hr6121
    have hP : va_P G.1 vwCl [(h0, .inr (12, [.ref nw, .ref nk, .int mhasKept, .ref nt, .int mtaped, .ref nr, .int mrowMany, .int mroundOf, .int mroundFrom, .int mouts, .ref nm, .int mfromHour, .int mtoHour, .ref ns, .int mfrom, .int mto, .int msort, .int misFault, .int mdeep, .int mcoded, .int mlines, .ref nl, .ref nc, .ref nF, .ref np, .ref ntr, .ref nb, .int mbestCost, .ref nso, .ref nsi, .ref nit, .ref nsh, .ref nsf, .ref nss, .ref nrc, .int (nI jr16123), .int 2, .int mnumber, .int mwhose, .int msize, .int ip16124])), (nrc, .inl (G.2.1, 30, .inl gtrc6125))] H := hP
    have hD : va_D A [(h0, .inr (12, [.ref nw, .ref nk, .int mhasKept, .ref nt, .int mtaped, .ref nr, .int mrowMany, .int mroundOf, .int mroundFrom, .int mouts, .ref nm, .int mfromHour, .int mtoHour, .ref ns, .int mfrom, .int mto, .int msort, .int misFault, .int mdeep, .int mcoded, .int mlines, .ref nl, .ref nc, .ref nF, .ref np, .ref ntr, .ref nb, .int mbestCost, .ref nso, .ref nsi, .ref nit, .ref nsh, .ref nsf, .ref nss, .ref nrc, .int (nI jr16123), .int 2, .int mnumber, .int mwhose, .int msize, .int ip16124])), (nrc, .inl (G.2.1, 30, .inl gtrc6125))] := hD
    obtain ⟨hr6121, w6126⟩ := hr6121
    exact RI (v := r6121) hC hP hD hS [0, 1] (jr16123, ip16124, gtrc6125) rfl rfl (by decide) (⟨trivial, by omega⟩) rfl dX12_dealt_10
  · refine iV (wr := []) hC hK hl hP hD hS hA (m_from33 l G h0 xx nw nk mhasKept nt mtaped nr mrowMany mroundOf mroundFrom mouts nm mfromHour mtoHour ns mfrom mto msort misFault mdeep mcoded mlines nl nc nF np ntr nb mbestCost nso nsi nit nsh nsf nss nrc jr 3 mnumber mwhose msize misParted fnrc (by omega) (by omega)) si_X12_357 [0, 1] [] rfl rfl (by decide) rfl (by decide) (by decide) rfl rfl rfl rfl rfl (Nat.le_of_ble_eq_true rfl) ⟨Nat.le_of_ble_eq_true rfl, Nat.le_of_ble_eq_true rfl⟩ ⟨Nat.le_of_ble_eq_true rfl, Nat.le_of_ble_eq_true rfl⟩ dX12_dealt_7 (fun r6127 u6128 H locs hr6127 hP hD hS => ?_)
    obtain ⟨jr16129, ip16130, gtrc6131⟩ := u6128
    try dsimp only at hr6127
    have hP : va_P G.1 vwCl [(h0, .inr (12, [.ref nw, .ref nk, .int mhasKept, .ref nt, .int mtaped, .ref nr, .int mrowMany, .int mroundOf, .int mroundFrom, .int mouts, .ref nm, .int mfromHour, .int mtoHour, .ref ns, .int mfrom, .int mto, .int msort, .int misFault, .int mdeep, .int mcoded, .int mlines, .ref nl, .ref nc, .ref nF, .ref np, .ref ntr, .ref nb, .int mbestCost, .ref nso, .ref nsi, .ref nit, .ref nsh, .ref nsf, .ref nss, .ref nrc, .int (nI jr16129), .int 3, .int mnumber, .int mwhose, .int msize, .int ip16130])), (nrc, .inl (G.2.1, 30, .inl gtrc6131))] H := hP
    have hD : va_D A [(h0, .inr (12, [.ref nw, .ref nk, .int mhasKept, .ref nt, .int mtaped, .ref nr, .int mrowMany, .int mroundOf, .int mroundFrom, .int mouts, .ref nm, .int mfromHour, .int mtoHour, .ref ns, .int mfrom, .int mto, .int msort, .int misFault, .int mdeep, .int mcoded, .int mlines, .ref nl, .ref nc, .ref nF, .ref np, .ref ntr, .ref nb, .int mbestCost, .ref nso, .ref nsi, .ref nit, .ref nsh, .ref nsf, .ref nss, .ref nrc, .int (nI jr16129), .int 3, .int mnumber, .int mwhose, .int msize, .int ip16130])), (nrc, .inl (G.2.1, 30, .inl gtrc6131))] := hD
    obtain ⟨hr6127, w6132⟩ := hr6127
    exact RI (v := r6127) hC hP hD hS [0, 1] (jr16129, ip16130, gtrc6131) rfl rfl (by decide) (⟨trivial, by omega⟩) rfl dX12_dealt_10
  · refine iV (wr := []) hC hK hl hP hD hS hA (m_from43 l G h0 xx nw nk mhasKept nt mtaped nr mrowMany mroundOf mroundFrom mouts nm mfromHour mtoHour ns mfrom mto msort misFault mdeep mcoded mlines nl nc nF np ntr nb mbestCost nso nsi nit nsh nsf nss nrc jr 4 mnumber mwhose msize misParted fnrc (by omega) (by omega)) si_X12_357 [0, 1] [] rfl rfl (by decide) rfl (by decide) (by decide) rfl rfl rfl rfl rfl (Nat.le_of_ble_eq_true rfl) ⟨Nat.le_of_ble_eq_true rfl, Nat.le_of_ble_eq_true rfl⟩ ⟨Nat.le_of_ble_eq_true rfl, Nat.le_of_ble_eq_true rfl⟩ dX12_dealt_7 (fun r6133 u6134 H locs hr6133 hP hD hS => ?_)
    obtain ⟨jr16135, ip16136, gtrc6137⟩ := u6134
    try dsimp only at hr6133
    have hP : va_P G.1 vwCl [(h0, .inr (12, [.ref nw, .ref nk, .int mhasKept, .ref nt, .int mtaped, .ref nr, .int mrowMany, .int mroundOf, .int mroundFrom, .int mouts, .ref nm, .int mfromHour, .int mtoHour, .ref ns, .int mfrom, .int mto, .int msort, .int misFault, .int mdeep, .int mcoded, .int mlines, .ref nl, .ref nc, .ref nF, .ref np, .ref ntr, .ref nb, .int mbestCost, .ref nso, .ref nsi, .ref nit, .ref nsh, .ref nsf, .ref nss, .ref nrc, .int (nI jr16135), .int 4, .int mnumber, .int mwhose, .int msize, .int ip16136])), (nrc, .inl (G.2.1, 30, .inl gtrc6137))] H := hP
    have hD : va_D A [(h0, .inr (12, [.ref nw, .ref nk, .int mhasKept, .ref nt, .int mtaped, .ref nr, .int mrowMany, .int mroundOf, .int mroundFrom, .int mouts, .ref nm, .int mfromHour, .int mtoHour, .ref ns, .int mfrom, .int mto, .int msort, .int misFault, .int mdeep, .int mcoded, .int mlines, .ref nl, .ref nc, .ref nF, .ref np, .ref ntr, .ref nb, .int mbestCost, .ref nso, .ref nsi, .ref nit, .ref nsh, .ref nsf, .ref nss, .ref nrc, .int (nI jr16135), .int 4, .int mnumber, .int mwhose, .int msize, .int ip16136])), (nrc, .inl (G.2.1, 30, .inl gtrc6137))] := hD
    obtain ⟨hr6133, w6138⟩ := hr6133
    exact RI (v := r6133) hC hP hD hS [0, 1] (jr16135, ip16136, gtrc6137) rfl rfl (by decide) (⟨trivial, by omega⟩) rfl dX12_dealt_10
  · refine iV (wr := []) hC hK hl hP hD hS hA (m_from53 l G h0 xx nw nk mhasKept nt mtaped nr mrowMany mroundOf mroundFrom mouts nm mfromHour mtoHour ns mfrom mto msort misFault mdeep mcoded mlines nl nc nF np ntr nb mbestCost nso nsi nit nsh nsf nss nrc jr 5 mnumber mwhose msize misParted fnrc (by omega) (by omega)) si_X12_357 [0, 1] [] rfl rfl (by decide) rfl (by decide) (by decide) rfl rfl rfl rfl rfl (Nat.le_of_ble_eq_true rfl) ⟨Nat.le_of_ble_eq_true rfl, Nat.le_of_ble_eq_true rfl⟩ ⟨Nat.le_of_ble_eq_true rfl, Nat.le_of_ble_eq_true rfl⟩ dX12_dealt_7 (fun r6139 u6140 H locs hr6139 hP hD hS => ?_)
    obtain ⟨jr16141, ip16142, gtrc6143⟩ := u6140
    try dsimp only at hr6139
    have hP : va_P G.1 vwCl [(h0, .inr (12, [.ref nw, .ref nk, .int mhasKept, .ref nt, .int mtaped, .ref nr, .int mrowMany, .int mroundOf, .int mroundFrom, .int mouts, .ref nm, .int mfromHour, .int mtoHour, .ref ns, .int mfrom, .int mto, .int msort, .int misFault, .int mdeep, .int mcoded, .int mlines, .ref nl, .ref nc, .ref nF, .ref np, .ref ntr, .ref nb, .int mbestCost, .ref nso, .ref nsi, .ref nit, .ref nsh, .ref nsf, .ref nss, .ref nrc, .int (nI jr16141), .int 5, .int mnumber, .int mwhose, .int msize, .int ip16142])), (nrc, .inl (G.2.1, 30, .inl gtrc6143))] H := hP
    have hD : va_D A [(h0, .inr (12, [.ref nw, .ref nk, .int mhasKept, .ref nt, .int mtaped, .ref nr, .int mrowMany, .int mroundOf, .int mroundFrom, .int mouts, .ref nm, .int mfromHour, .int mtoHour, .ref ns, .int mfrom, .int mto, .int msort, .int misFault, .int mdeep, .int mcoded, .int mlines, .ref nl, .ref nc, .ref nF, .ref np, .ref ntr, .ref nb, .int mbestCost, .ref nso, .ref nsi, .ref nit, .ref nsh, .ref nsf, .ref nss, .ref nrc, .int (nI jr16141), .int 5, .int mnumber, .int mwhose, .int msize, .int ip16142])), (nrc, .inl (G.2.1, 30, .inl gtrc6143))] := hD
    obtain ⟨hr6139, w6144⟩ := hr6139
    exact RI (v := r6139) hC hP hD hS [0, 1] (jr16141, ip16142, gtrc6143) rfl rfl (by decide) (⟨trivial, by omega⟩) rfl dX12_dealt_10
  · refine iV (wr := []) hC hK hl hP hD hS hA (m_from63 l G h0 xx nw nk mhasKept nt mtaped nr mrowMany mroundOf mroundFrom mouts nm mfromHour mtoHour ns mfrom mto msort misFault mdeep mcoded mlines nl nc nF np ntr nb mbestCost nso nsi nit nsh nsf nss nrc jr 6 mnumber mwhose msize misParted fnrc (by omega) (by omega)) si_X12_357 [0, 1] [] rfl rfl (by decide) rfl (by decide) (by decide) rfl rfl rfl rfl rfl (Nat.le_of_ble_eq_true rfl) ⟨Nat.le_of_ble_eq_true rfl, Nat.le_of_ble_eq_true rfl⟩ ⟨Nat.le_of_ble_eq_true rfl, Nat.le_of_ble_eq_true rfl⟩ dX12_dealt_7 (fun r6145 u6146 H locs hr6145 hP hD hS => ?_)
    obtain ⟨jr16147, ip16148, gtrc6149⟩ := u6146
    try dsimp only at hr6145
    have hP : va_P G.1 vwCl [(h0, .inr (12, [.ref nw, .ref nk, .int mhasKept, .ref nt, .int mtaped, .ref nr, .int mrowMany, .int mroundOf, .int mroundFrom, .int mouts, .ref nm, .int mfromHour, .int mtoHour, .ref ns, .int mfrom, .int mto, .int msort, .int misFault, .int mdeep, .int mcoded, .int mlines, .ref nl, .ref nc, .ref nF, .ref np, .ref ntr, .ref nb, .int mbestCost, .ref nso, .ref nsi, .ref nit, .ref nsh, .ref nsf, .ref nss, .ref nrc, .int (nI jr16147), .int 6, .int mnumber, .int mwhose, .int msize, .int ip16148])), (nrc, .inl (G.2.1, 30, .inl gtrc6149))] H := hP
    have hD : va_D A [(h0, .inr (12, [.ref nw, .ref nk, .int mhasKept, .ref nt, .int mtaped, .ref nr, .int mrowMany, .int mroundOf, .int mroundFrom, .int mouts, .ref nm, .int mfromHour, .int mtoHour, .ref ns, .int mfrom, .int mto, .int msort, .int misFault, .int mdeep, .int mcoded, .int mlines, .ref nl, .ref nc, .ref nF, .ref np, .ref ntr, .ref nb, .int mbestCost, .ref nso, .ref nsi, .ref nit, .ref nsh, .ref nsf, .ref nss, .ref nrc, .int (nI jr16147), .int 6, .int mnumber, .int mwhose, .int msize, .int ip16148])), (nrc, .inl (G.2.1, 30, .inl gtrc6149))] := hD
    obtain ⟨hr6145, w6150⟩ := hr6145
    exact RI (v := r6145) hC hP hD hS [0, 1] (jr16147, ip16148, gtrc6149) rfl rfl (by decide) (⟨trivial, by omega⟩) rfl dX12_dealt_10
set_option maxHeartbeats 4000000 in
set_option maxRecDepth 100000 in
theorem w_deal (l : Launch) (G : GG) (h0 : Nat) (x1 : Int32) (x2 : Int32) (x3 : Int32) (nw : Nat) (nk : Nat) (mhasKept : Int32) (nt : Nat) (mtaped : Int32) (nr : Nat) (mrowMany : Int32) (mroundOf : Int32) (mroundFrom : Int32) (mouts : Int32) (nm : Nat) (mfromHour : Int32) (mtoHour : Int32) (ns : Nat) (mfrom : Int32) (mto : Int32) (msort : Int32) (misFault : Int32) (mdeep : Int32) (mcoded : Int32) (mlines : Int32) (nl : Nat) (nc : Nat) (nF : Nat) (np : Nat) (ntr : Nat) (nb : Nat) (mbestCost : Int32) (nso : Nat) (nsi : Nat) (nit : Nat) (nsh : Nat) (nsf : Nat) (nss : Nat) (nrc : Nat) (mtraced : Int32) (mdealer : Int32) (mnumber : Int32) (mwhose : Int32) (msize : Int32) (misParted : Int32) (fnw : Nat → Int32) (fnsh : Nat → Int32) (fnsf : Nat → Int32) (fnrc : Nat → Int32) (hN : NI fnw) : MI l G yX12_deal cX12_deal 8 (some .int) 60 0 0 [.ref h0, .int x1, .int x2, .int x3] [(h0, .inr (12, [.ref nw, .ref nk, .int mhasKept, .ref nt, .int mtaped, .ref nr, .int mrowMany, .int mroundOf, .int mroundFrom, .int mouts, .ref nm, .int mfromHour, .int mtoHour, .ref ns, .int mfrom, .int mto, .int msort, .int misFault, .int mdeep, .int mcoded, .int mlines, .ref nl, .ref nc, .ref nF, .ref np, .ref ntr, .ref nb, .int mbestCost, .ref nso, .ref nsi, .ref nit, .ref nsh, .ref nsf, .ref nss, .ref nrc, .int mtraced, .int mdealer, .int mnumber, .int mwhose, .int msize, .int misParted])), (nw, .inl (G.2.1, 1662, .inl fnw)), (nsh, .inl (G.2.1, 4, .inl fnsh)), (nsf, .inl (G.2.1, 4, .inl fnsf)), (nrc, .inl (G.2.1, 30, .inl fnrc))] (fun (r : Int32) (u : Nat × Int32 × Int32 × Int32 × Int32 × Int32 × (Nat → Int32)) => (True) ∧ (u.1 ≤ 30)) (fun u : Nat × Int32 × Int32 × Int32 × Int32 × Int32 × (Nat → Int32) => [(h0, .inr (12, [.ref nw, .ref nk, .int mhasKept, .ref nt, .int mtaped, .ref nr, .int mrowMany, .int mroundOf, .int mroundFrom, .int mouts, .ref nm, .int mfromHour, .int mtoHour, .ref ns, .int mfrom, .int mto, .int msort, .int misFault, .int mdeep, .int mcoded, .int mlines, .ref nl, .ref nc, .ref nF, .ref np, .ref ntr, .ref nb, .int mbestCost, .ref nso, .ref nsi, .ref nit, .ref nsh, .ref nsf, .ref nss, .ref nrc, .int (nI u.1), .int u.2.1, .int u.2.2.1, .int u.2.2.2.1, .int u.2.2.2.2.1, .int u.2.2.2.2.2.1])), (nw, .inl (G.2.1, 1662, .inl fnw)), (nsh, .inl (G.2.1, 4, .inl fnsh)), (nsf, .inl (G.2.1, 4, .inl fnsf)), (nrc, .inl (G.2.1, 30, .inl u.2.2.2.2.2.2))]) := by
  refine MI.start (by decide +kernel) (Nat.le_of_ble_eq_true rfl) ?_
  intro p e s m below meth c A ls hC hK hP hD hS hA hl
  have hl : lv_has ls 8 [(0, .ref h0), (1, .int x1), (2, .int x2), (3, .int x3)] := hl
  obtain ⟨hx, hb, hr, hml, hB, hown, hlocks, hnm⟩ := id hC
  refine lv_aload_n hx hb dX12_deal_0 rfl (lv_at hl 0 rfl) ?_
  refine lv_iconst (v := 0) hx hb dX12_deal_1 (by decide) ?_
  refine pf_X12_351 hC rfl hK hP hD hS 0 (ws' := [(h0, .inr (12, [.ref nw, .ref nk, .int mhasKept, .ref nt, .int mtaped, .ref nr, .int mrowMany, .int mroundOf, .int mroundFrom, .int mouts, .ref nm, .int mfromHour, .int mtoHour, .ref ns, .int mfrom, .int mto, .int msort, .int misFault, .int mdeep, .int mcoded, .int mlines, .ref nl, .ref nc, .ref nF, .ref np, .ref ntr, .ref nb, .int mbestCost, .ref nso, .ref nsi, .ref nit, .ref nsh, .ref nsf, .ref nss, .ref nrc, .int 0, .int mdealer, .int mnumber, .int mwhose, .int msize, .int misParted])), (nw, .inl (G.2.1, 1662, .inl fnw)), (nsh, .inl (G.2.1, 4, .inl fnsh)), (nsf, .inl (G.2.1, 4, .inl fnsf)), (nrc, .inl (G.2.1, 30, .inl fnrc))]) rfl (Nat.le_of_ble_eq_true rfl) rfl rfl rfl dX12_deal_2 (fun H locs hP hD hS => ?_)
  refine lv_iload_n hx hb dX12_deal_5 rfl (lv_at hl 1 rfl) ?_
  refine pS hC hK hl (m_isFour l G x1) si_X12_336 rfl rfl (Nat.le_of_ble_eq_true rfl) ⟨Nat.le_of_ble_eq_true rfl, Nat.le_of_ble_eq_true rfl⟩ ⟨by first | exact Nat.le_of_ble_eq_true rfl | exact Nat.zero_le _, by first | exact Nat.le_of_ble_eq_true rfl | exact Nat.zero_le _⟩ dX12_deal_6 (fun r6151 hr6151 => ?_)
  rcases hr6151 with ⟨rfl, a6152⟩ | ⟨rfl, a6152⟩
  · refine lv_if_eq (tgt := 19) hx hb dX12_deal_9 (by decide) (fun c9 => absurd c9 (by decide)) (fun _ => ?_)
    refine lv_iload_n hx hb dX12_deal_12 rfl (lv_at hl 2 rfl) ?_
    refine pS hC hK hl (m_isFour l G x2) si_X12_336 rfl rfl (Nat.le_of_ble_eq_true rfl) ⟨Nat.le_of_ble_eq_true rfl, Nat.le_of_ble_eq_true rfl⟩ ⟨by first | exact Nat.le_of_ble_eq_true rfl | exact Nat.zero_le _, by first | exact Nat.le_of_ble_eq_true rfl | exact Nat.zero_le _⟩ dX12_deal_13 (fun r6153 hr6153 => ?_)
    rcases hr6153 with ⟨rfl, a6154⟩ | ⟨rfl, a6154⟩
    · refine lv_if_ne (tgt := 23) hx hb dX12_deal_16 (by decide) (fun _ => ?_) (fun c9 => absurd c9 (by decide))
      obtain ⟨jt, hjt, rfl⟩ := Wi_nat (N := 3) (by decide) a6152
      refine lv_aload_n hx hb dX12_deal_23 rfl (lv_at hl 0 rfl) ?_
      refine lv_iload_n hx hb dX12_deal_24 rfl (lv_at hl 1 rfl) ?_
      refine pV hC hK hl hP hD (m_kindOn l G h0 jt nw nk mhasKept nt mtaped nr mrowMany mroundOf mroundFrom mouts nm mfromHour mtoHour ns mfrom mto msort misFault mdeep mcoded mlines nl nc nF np ntr nb mbestCost nso nsi nit nsh nsf nss nrc 0 mdealer mnumber mwhose msize misParted fnw fnsh fnsf (by omega) (hN)) si_X12_345 [0, 1, 2, 3] rfl rfl (by decide) rfl rfl rfl rfl rfl (Nat.le_of_ble_eq_true rfl) ⟨Nat.le_of_ble_eq_true rfl, Nat.le_of_ble_eq_true rfl⟩ ⟨by first | exact Nat.le_of_ble_eq_true rfl | exact Nat.zero_le _, by first | exact Nat.le_of_ble_eq_true rfl | exact Nat.zero_le _⟩ dX12_deal_25 (fun r6155 hr6155 => ?_)
      rcases hr6155 with rfl | ⟨rfl, a6156⟩ | ⟨rfl, a6156⟩ | ⟨rfl, a6156⟩ | ⟨rfl, a6156⟩ | ⟨rfl, a6156⟩ | ⟨rfl, a6156⟩
      · refine lv_istore (lv' := [(4, .int (-1)), (0, .ref h0), (1, .int (nI jt)), (2, .int x2), (3, .int x3)]) hx hb dX12_deal_28 hl (by decide) rfl (fun ls hl => ?_)
        refine lv_iload hx hb dX12_deal_30 (lv_at hl 0 rfl) ?_
        refine lv_if_ge (tgt := 37) hx hb dX12_deal_32 (by decide) (fun c9 => absurd c9 (by decide)) (fun _ => ?_)
        refine lv_iconst (v := 0) hx hb dX12_deal_35 (by decide) ?_
        exact RI (v := 0) hC hP hD hS [0, 1, 2, 3, 4] (0, mdealer, mnumber, mwhose, msize, misParted, fnrc) rfl rfl (by decide) (⟨trivial, by omega⟩) rfl dX12_deal_36
      · refine lv_istore (lv' := [(4, .int 1), (0, .ref h0), (1, .int (nI jt)), (2, .int x2), (3, .int x3)]) hx hb dX12_deal_28 hl (by decide) rfl (fun ls hl => ?_)
        refine lv_iload hx hb dX12_deal_30 (lv_at hl 0 rfl) ?_
        refine lv_if_ge (tgt := 37) hx hb dX12_deal_32 (by decide) (fun _ => ?_) (fun c9 => absurd (by decide) c9)
        refine lv_aload_n hx hb dX12_deal_37 rfl (lv_at hl 1 rfl) ?_
        refine lv_iload hx hb dX12_deal_38 (lv_at hl 0 rfl) ?_
        refine pf_X12_354 hC rfl hK hP hD hS 0 (ws' := [(h0, .inr (12, [.ref nw, .ref nk, .int mhasKept, .ref nt, .int mtaped, .ref nr, .int mrowMany, .int mroundOf, .int mroundFrom, .int mouts, .ref nm, .int mfromHour, .int mtoHour, .ref ns, .int mfrom, .int mto, .int msort, .int misFault, .int mdeep, .int mcoded, .int mlines, .ref nl, .ref nc, .ref nF, .ref np, .ref ntr, .ref nb, .int mbestCost, .ref nso, .ref nsi, .ref nit, .ref nsh, .ref nsf, .ref nss, .ref nrc, .int 0, .int 1, .int mnumber, .int mwhose, .int msize, .int misParted])), (nw, .inl (G.2.1, 1662, .inl fnw)), (nsh, .inl (G.2.1, 4, .inl fnsh)), (nsf, .inl (G.2.1, 4, .inl fnsf)), (nrc, .inl (G.2.1, 30, .inl fnrc))]) rfl (Nat.le_of_ble_eq_true rfl) rfl rfl rfl dX12_deal_40 (fun H locs hP hD hS => ?_)
        refine lv_aload_n hx hb dX12_deal_43 rfl (lv_at hl 1 rfl) ?_
        refine lv_aload_n hx hb dX12_deal_44 rfl (lv_at hl 1 rfl) ?_
        refine gf_X12_75 hC rfl hK hP 0 rfl rfl dX12_deal_45 ?_
        refine lv_iload_n hx hb dX12_deal_48 rfl (lv_at hl 2 rfl) ?_
        refine ald hC hK hP 3 rfl (vp_in_nI (by omega) (by omega)) (k := jt) (nI_clamp (by omega)) (v := fnsf jt) rfl dX12_deal_49 ?_
        refine lv_topi (fun x6157 ex6157 => ?_)
        obtain ⟨hko9, jno, hjno, ejno⟩ := a6156
        refine eqi (x1 := nI jno) (ex6157.trans ejno) ?_
        refine pf_X12_378 hC rfl hK hP hD hS 0 (ws' := [(h0, .inr (12, [.ref nw, .ref nk, .int mhasKept, .ref nt, .int mtaped, .ref nr, .int mrowMany, .int mroundOf, .int mroundFrom, .int mouts, .ref nm, .int mfromHour, .int mtoHour, .ref ns, .int mfrom, .int mto, .int msort, .int misFault, .int mdeep, .int mcoded, .int mlines, .ref nl, .ref nc, .ref nF, .ref np, .ref ntr, .ref nb, .int mbestCost, .ref nso, .ref nsi, .ref nit, .ref nsh, .ref nsf, .ref nss, .ref nrc, .int 0, .int 1, .int (nI jno), .int mwhose, .int msize, .int misParted])), (nw, .inl (G.2.1, 1662, .inl fnw)), (nsh, .inl (G.2.1, 4, .inl fnsh)), (nsf, .inl (G.2.1, 4, .inl fnsf)), (nrc, .inl (G.2.1, 30, .inl fnrc))]) rfl (Nat.le_of_ble_eq_true rfl) rfl rfl rfl dX12_deal_50 (fun H locs hP hD hS => ?_)
        refine lv_aload_n hx hb dX12_deal_53 rfl (lv_at hl 1 rfl) ?_
        refine gf_X12_72 hC rfl hK hP 0 rfl rfl dX12_deal_54 ?_
        refine lv_iload_n hx hb dX12_deal_57 rfl (lv_at hl 2 rfl) ?_
        refine ald hC hK hP 2 rfl (vp_in_nI (by omega) (by omega)) (k := jt) (nI_clamp (by omega)) (v := fnsh jt) rfl dX12_deal_58 ?_
        refine lv_topi (fun x6158 ex6158 => ?_)
        refine lv_iconst (v := 1) hx hb dX12_deal_59 (by decide) ?_
        refine lv_icmp_ne (tgt := 67) hx hb dX12_deal_60 (by decide) (fun c9 => absurd (ex6158.trans hko9) c9) (fun _ => ?_)
        refine lv_iconst (v := 1) hx hb dX12_deal_63 (by decide) ?_
        refine lv_goto (tgt := 68) hx hb dX12_deal_64 (by decide) ?_
        refine lv_istore (lv' := [(5, .int 1), (4, .int 1), (0, .ref h0), (1, .int (nI jt)), (2, .int x2), (3, .int x3)]) hx hb dX12_deal_68 hl (by decide) rfl (fun ls hl => ?_)
        refine lv_aload_n hx hb dX12_deal_70 rfl (lv_at hl 2 rfl) ?_
        refine gf_X12_72 hC rfl hK hP 0 rfl rfl dX12_deal_71 ?_
        refine lv_iload_n hx hb dX12_deal_74 rfl (lv_at hl 3 rfl) ?_
        refine ald hC hK hP 2 rfl (vp_in_nI (by omega) (by omega)) (k := jt) (nI_clamp (by omega)) (v := fnsh jt) rfl dX12_deal_75 ?_
        refine lv_topi (fun x6159 ex6159 => ?_)
        refine lv_iconst (v := 2) hx hb dX12_deal_76 (by decide) ?_
        refine lv_icmp_ne (tgt := 84) hx hb dX12_deal_77 (by decide) (fun _ => ?_) (fun c9 => absurd c9 (fun h9 => absurd (hko9.symm.trans ((ex6159.symm).trans h9)) (by decide)))
        refine lv_iconst (v := 0) hx hb dX12_deal_84 (by decide) ?_
        refine lv_istore (lv' := [(6, .int 0), (5, .int 1), (4, .int 1), (0, .ref h0), (1, .int (nI jt)), (2, .int x2), (3, .int x3)]) hx hb dX12_deal_85 hl (by decide) rfl (fun ls hl => ?_)
        refine lv_aload_n hx hb dX12_deal_87 rfl (lv_at hl 3 rfl) ?_
        refine lv_iload hx hb dX12_deal_88 (lv_at hl 1 rfl) ?_
        refine lv_if_eq (tgt := 105) hx hb dX12_deal_90 (by decide) (fun c9 => absurd c9 (by decide)) (fun _ => ?_)
        refine lv_aload_n hx hb dX12_deal_93 rfl (lv_at hl 3 rfl) ?_
        refine lv_aload_n hx hb dX12_deal_94 rfl (lv_at hl 3 rfl) ?_
        refine gf_X12_378 hC rfl hK hP 0 rfl rfl dX12_deal_95 ?_
        refine lv_iconst (v := 0) hx hb dX12_deal_98 (by decide) ?_
        refine pV hC hK hl hP hD (m_paper l G h0 jno 0 nw nk mhasKept nt mtaped nr mrowMany mroundOf mroundFrom mouts nm mfromHour mtoHour ns mfrom mto msort misFault mdeep mcoded mlines nl nc nF np ntr nb mbestCost nso nsi nit nsh nsf nss nrc 0 1 (nI jno) mwhose msize misParted fnw (by omega) (by omega)) si_X12_88 [0, 1] rfl rfl (by decide) rfl rfl rfl rfl rfl (Nat.le_of_ble_eq_true rfl) ⟨Nat.le_of_ble_eq_true rfl, Nat.le_of_ble_eq_true rfl⟩ ⟨by first | exact Nat.le_of_ble_eq_true rfl | exact Nat.zero_le _, by first | exact Nat.le_of_ble_eq_true rfl | exact Nat.zero_le _⟩ dX12_deal_99 (fun r6160 hr6160 => ?_)
        obtain rfl := hr6160
        refine lv_goto (tgt := 139) hx hb dX12_deal_102 (by decide) ?_
        refine pf_X12_375 hC rfl hK hP hD hS 0 (ws' := [(h0, .inr (12, [.ref nw, .ref nk, .int mhasKept, .ref nt, .int mtaped, .ref nr, .int mrowMany, .int mroundOf, .int mroundFrom, .int mouts, .ref nm, .int mfromHour, .int mtoHour, .ref ns, .int mfrom, .int mto, .int msort, .int misFault, .int mdeep, .int mcoded, .int mlines, .ref nl, .ref nc, .ref nF, .ref np, .ref ntr, .ref nb, .int mbestCost, .ref nso, .ref nsi, .ref nit, .ref nsh, .ref nsf, .ref nss, .ref nrc, .int 0, .int 1, .int (nI jno), .int (fnw (32 + 6 * jno + 0)), .int msize, .int misParted])), (nw, .inl (G.2.1, 1662, .inl fnw)), (nsh, .inl (G.2.1, 4, .inl fnsh)), (nsf, .inl (G.2.1, 4, .inl fnsf)), (nrc, .inl (G.2.1, 30, .inl fnrc))]) rfl (Nat.le_of_ble_eq_true rfl) rfl rfl rfl dX12_deal_139 (fun H locs hP hD hS => ?_)
        refine lv_aload_n hx hb dX12_deal_142 rfl (lv_at hl 3 rfl) ?_
        refine lv_iload hx hb dX12_deal_143 (lv_at hl 1 rfl) ?_
        refine lv_if_eq (tgt := 160) hx hb dX12_deal_145 (by decide) (fun c9 => absurd c9 (by decide)) (fun _ => ?_)
        refine lv_aload_n hx hb dX12_deal_148 rfl (lv_at hl 3 rfl) ?_
        refine lv_aload_n hx hb dX12_deal_149 rfl (lv_at hl 3 rfl) ?_
        refine gf_X12_378 hC rfl hK hP 0 rfl rfl dX12_deal_150 ?_
        refine lv_iconst (v := 2) hx hb dX12_deal_153 (by decide) ?_
        refine pV hC hK hl hP hD (m_paper l G h0 jno 2 nw nk mhasKept nt mtaped nr mrowMany mroundOf mroundFrom mouts nm mfromHour mtoHour ns mfrom mto msort misFault mdeep mcoded mlines nl nc nF np ntr nb mbestCost nso nsi nit nsh nsf nss nrc 0 1 (nI jno) (fnw (32 + 6 * jno + 0)) msize misParted fnw (by omega) (by omega)) si_X12_88 [0, 1] rfl rfl (by decide) rfl rfl rfl rfl rfl (Nat.le_of_ble_eq_true rfl) ⟨Nat.le_of_ble_eq_true rfl, Nat.le_of_ble_eq_true rfl⟩ ⟨by first | exact Nat.le_of_ble_eq_true rfl | exact Nat.zero_le _, by first | exact Nat.le_of_ble_eq_true rfl | exact Nat.zero_le _⟩ dX12_deal_154 (fun r6162 hr6162 => ?_)
        obtain rfl := hr6162
        refine lv_goto (tgt := 194) hx hb dX12_deal_157 (by decide) ?_
        refine pf_X12_369 hC rfl hK hP hD hS 0 (ws' := [(h0, .inr (12, [.ref nw, .ref nk, .int mhasKept, .ref nt, .int mtaped, .ref nr, .int mrowMany, .int mroundOf, .int mroundFrom, .int mouts, .ref nm, .int mfromHour, .int mtoHour, .ref ns, .int mfrom, .int mto, .int msort, .int misFault, .int mdeep, .int mcoded, .int mlines, .ref nl, .ref nc, .ref nF, .ref np, .ref ntr, .ref nb, .int mbestCost, .ref nso, .ref nsi, .ref nit, .ref nsh, .ref nsf, .ref nss, .ref nrc, .int 0, .int 1, .int (nI jno), .int (fnw (32 + 6 * jno + 0)), .int (fnw (32 + 6 * jno + 2)), .int misParted])), (nw, .inl (G.2.1, 1662, .inl fnw)), (nsh, .inl (G.2.1, 4, .inl fnsh)), (nsf, .inl (G.2.1, 4, .inl fnsf)), (nrc, .inl (G.2.1, 30, .inl fnrc))]) rfl (Nat.le_of_ble_eq_true rfl) rfl rfl rfl dX12_deal_194 (fun H locs hP hD hS => ?_)
        refine lv_aload_n hx hb dX12_deal_197 rfl (lv_at hl 3 rfl) ?_
        refine lv_iconst (v := 0) hx hb dX12_deal_198 (by decide) ?_
        refine pf_X12_380 hC rfl hK hP hD hS 0 (ws' := [(h0, .inr (12, [.ref nw, .ref nk, .int mhasKept, .ref nt, .int mtaped, .ref nr, .int mrowMany, .int mroundOf, .int mroundFrom, .int mouts, .ref nm, .int mfromHour, .int mtoHour, .ref ns, .int mfrom, .int mto, .int msort, .int misFault, .int mdeep, .int mcoded, .int mlines, .ref nl, .ref nc, .ref nF, .ref np, .ref ntr, .ref nb, .int mbestCost, .ref nso, .ref nsi, .ref nit, .ref nsh, .ref nsf, .ref nss, .ref nrc, .int 0, .int 1, .int (nI jno), .int (fnw (32 + 6 * jno + 0)), .int (fnw (32 + 6 * jno + 2)), .int 0])), (nw, .inl (G.2.1, 1662, .inl fnw)), (nsh, .inl (G.2.1, 4, .inl fnsh)), (nsf, .inl (G.2.1, 4, .inl fnsf)), (nrc, .inl (G.2.1, 30, .inl fnrc))]) rfl (Nat.le_of_ble_eq_true rfl) rfl (by decide +kernel) (by decide +kernel) dX12_deal_199 (fun H locs hP hD hS => ?_)
        obtain ⟨jdl, hjdl, rfl⟩ := Wi_nat (N := 3) (by decide) a6154
        rcases (show jdl = 0 ∨ jdl = 1 ∨ jdl = 2 ∨ jdl = 3 by omega) with rfl | rfl | rfl | rfl
        · refine lv_aload_n hx hb dX12_deal_202 rfl (lv_at hl 3 rfl) ?_
          refine lv_iload_n hx hb dX12_deal_203 rfl (lv_at hl 5 rfl) ?_
          refine lv_iload_n hx hb dX12_deal_204 rfl (lv_at hl 6 rfl) ?_
          refine iV (wr := [(nw, .inl (G.2.1, 1662, .inl fnw)), (nsh, .inl (G.2.1, 4, .inl fnsh)), (nsf, .inl (G.2.1, 4, .inl fnsf))]) hC hK hl hP hD hS hA (m_dealt0 l G h0 x3 nw nk mhasKept nt mtaped nr mrowMany mroundOf mroundFrom mouts nm mfromHour mtoHour ns mfrom mto msort misFault mdeep mcoded mlines nl nc nF np ntr nb mbestCost nso nsi nit nsh nsf nss nrc 0 1 (nI jno) (fnw (32 + 6 * jno + 0)) (fnw (32 + 6 * jno + 2)) 0 fnrc (by omega) (by omega)) si_X12_372 [0, 4] [1, 2, 3] rfl rfl (by decide) rfl (by decide) (by decide) rfl rfl rfl rfl rfl (Nat.le_of_ble_eq_true rfl) ⟨Nat.le_of_ble_eq_true rfl, Nat.le_of_ble_eq_true rfl⟩ ⟨Nat.le_of_ble_eq_true rfl, Nat.le_of_ble_eq_true rfl⟩ dX12_deal_205 (fun r6164 u6165 H locs hr6164 hP hD hS => ?_)
          obtain ⟨jr16166, ip16167, gtrc6168⟩ := u6165
          try dsimp only at hr6164
          have hP : va_P G.1 vwCl [(nw, .inl (G.2.1, 1662, .inl fnw)), (nsh, .inl (G.2.1, 4, .inl fnsh)), (nsf, .inl (G.2.1, 4, .inl fnsf)), (h0, .inr (12, [.ref nw, .ref nk, .int mhasKept, .ref nt, .int mtaped, .ref nr, .int mrowMany, .int mroundOf, .int mroundFrom, .int mouts, .ref nm, .int mfromHour, .int mtoHour, .ref ns, .int mfrom, .int mto, .int msort, .int misFault, .int mdeep, .int mcoded, .int mlines, .ref nl, .ref nc, .ref nF, .ref np, .ref ntr, .ref nb, .int mbestCost, .ref nso, .ref nsi, .ref nit, .ref nsh, .ref nsf, .ref nss, .ref nrc, .int (nI jr16166), .int 1, .int (nI jno), .int (fnw (32 + 6 * jno + 0)), .int (fnw (32 + 6 * jno + 2)), .int ip16167])), (nrc, .inl (G.2.1, 30, .inl gtrc6168))] H := hP
          have hD : va_D A [(nw, .inl (G.2.1, 1662, .inl fnw)), (nsh, .inl (G.2.1, 4, .inl fnsh)), (nsf, .inl (G.2.1, 4, .inl fnsf)), (h0, .inr (12, [.ref nw, .ref nk, .int mhasKept, .ref nt, .int mtaped, .ref nr, .int mrowMany, .int mroundOf, .int mroundFrom, .int mouts, .ref nm, .int mfromHour, .int mtoHour, .ref ns, .int mfrom, .int mto, .int msort, .int misFault, .int mdeep, .int mcoded, .int mlines, .ref nl, .ref nc, .ref nF, .ref np, .ref ntr, .ref nb, .int mbestCost, .ref nso, .ref nsi, .ref nit, .ref nsh, .ref nsf, .ref nss, .ref nrc, .int (nI jr16166), .int 1, .int (nI jno), .int (fnw (32 + 6 * jno + 0)), .int (fnw (32 + 6 * jno + 2)), .int ip16167])), (nrc, .inl (G.2.1, 30, .inl gtrc6168))] := hD
          obtain ⟨hr6164, w6169⟩ := hr6164
          refine lv_istore (lv' := [(7, .int r6164), (6, .int 0), (5, .int 1), (4, .int 1), (0, .ref h0), (1, .int (nI jt)), (2, .int 0), (3, .int x3)]) hx hb dX12_deal_208 hl (by decide) rfl (fun ls hl => ?_)
          refine lv_aload_n hx hb dX12_deal_210 rfl (lv_at hl 4 rfl) ?_
          refine gf_X12_380 hC rfl hK hP 3 rfl rfl dX12_deal_211 ?_
          refine lv_if_eq (tgt := 222) hx hb dX12_deal_214 (by decide) (fun c_214_6170 => ?_) (fun c_214_6170 => ?_)
          · refine lv_iload hx hb dX12_deal_222 (lv_at hl 0 rfl) ?_
            exact RI (v := r6164) hC hP hD hS [3, 0, 1, 2, 4] (jr16166, 1, nI jno, fnw (32 + 6 * jno + 0), fnw (32 + 6 * jno + 2), ip16167, gtrc6168) rfl rfl (by decide) (⟨trivial, by omega⟩) rfl dX12_deal_224
          · refine lv_bipush (v := (-15)) hx hb dX12_deal_217 (by decide) ?_
            refine lv_goto (tgt := 224) hx hb dX12_deal_219 (by decide) ?_
            exact RI (v := (-15)) hC hP hD hS [3, 0, 1, 2, 4] (jr16166, 1, nI jno, fnw (32 + 6 * jno + 0), fnw (32 + 6 * jno + 2), ip16167, gtrc6168) rfl rfl (by decide) (⟨trivial, by omega⟩) rfl dX12_deal_224
        · refine lv_aload_n hx hb dX12_deal_202 rfl (lv_at hl 3 rfl) ?_
          refine lv_iload_n hx hb dX12_deal_203 rfl (lv_at hl 5 rfl) ?_
          refine lv_iload_n hx hb dX12_deal_204 rfl (lv_at hl 6 rfl) ?_
          refine iV (wr := [(nw, .inl (G.2.1, 1662, .inl fnw)), (nsh, .inl (G.2.1, 4, .inl fnsh)), (nsf, .inl (G.2.1, 4, .inl fnsf))]) hC hK hl hP hD hS hA (m_dealt1 l G h0 x3 nw nk mhasKept nt mtaped nr mrowMany mroundOf mroundFrom mouts nm mfromHour mtoHour ns mfrom mto msort misFault mdeep mcoded mlines nl nc nF np ntr nb mbestCost nso nsi nit nsh nsf nss nrc 0 1 (nI jno) (fnw (32 + 6 * jno + 0)) (fnw (32 + 6 * jno + 2)) 0 fnrc (by omega) (by omega)) si_X12_372 [0, 4] [1, 2, 3] rfl rfl (by decide) rfl (by decide) (by decide) rfl rfl rfl rfl rfl (Nat.le_of_ble_eq_true rfl) ⟨Nat.le_of_ble_eq_true rfl, Nat.le_of_ble_eq_true rfl⟩ ⟨Nat.le_of_ble_eq_true rfl, Nat.le_of_ble_eq_true rfl⟩ dX12_deal_205 (fun r6171 u6172 H locs hr6171 hP hD hS => ?_)
          obtain ⟨jr16173, ip16174, gtrc6175⟩ := u6172
          try dsimp only at hr6171
          have hP : va_P G.1 vwCl [(nw, .inl (G.2.1, 1662, .inl fnw)), (nsh, .inl (G.2.1, 4, .inl fnsh)), (nsf, .inl (G.2.1, 4, .inl fnsf)), (h0, .inr (12, [.ref nw, .ref nk, .int mhasKept, .ref nt, .int mtaped, .ref nr, .int mrowMany, .int mroundOf, .int mroundFrom, .int mouts, .ref nm, .int mfromHour, .int mtoHour, .ref ns, .int mfrom, .int mto, .int msort, .int misFault, .int mdeep, .int mcoded, .int mlines, .ref nl, .ref nc, .ref nF, .ref np, .ref ntr, .ref nb, .int mbestCost, .ref nso, .ref nsi, .ref nit, .ref nsh, .ref nsf, .ref nss, .ref nrc, .int (nI jr16173), .int 1, .int (nI jno), .int (fnw (32 + 6 * jno + 0)), .int (fnw (32 + 6 * jno + 2)), .int ip16174])), (nrc, .inl (G.2.1, 30, .inl gtrc6175))] H := hP
          have hD : va_D A [(nw, .inl (G.2.1, 1662, .inl fnw)), (nsh, .inl (G.2.1, 4, .inl fnsh)), (nsf, .inl (G.2.1, 4, .inl fnsf)), (h0, .inr (12, [.ref nw, .ref nk, .int mhasKept, .ref nt, .int mtaped, .ref nr, .int mrowMany, .int mroundOf, .int mroundFrom, .int mouts, .ref nm, .int mfromHour, .int mtoHour, .ref ns, .int mfrom, .int mto, .int msort, .int misFault, .int mdeep, .int mcoded, .int mlines, .ref nl, .ref nc, .ref nF, .ref np, .ref ntr, .ref nb, .int mbestCost, .ref nso, .ref nsi, .ref nit, .ref nsh, .ref nsf, .ref nss, .ref nrc, .int (nI jr16173), .int 1, .int (nI jno), .int (fnw (32 + 6 * jno + 0)), .int (fnw (32 + 6 * jno + 2)), .int ip16174])), (nrc, .inl (G.2.1, 30, .inl gtrc6175))] := hD
          obtain ⟨hr6171, w6176⟩ := hr6171
          refine lv_istore (lv' := [(7, .int r6171), (6, .int 0), (5, .int 1), (4, .int 1), (0, .ref h0), (1, .int (nI jt)), (2, .int 1), (3, .int x3)]) hx hb dX12_deal_208 hl (by decide) rfl (fun ls hl => ?_)
          refine lv_aload_n hx hb dX12_deal_210 rfl (lv_at hl 4 rfl) ?_
          refine gf_X12_380 hC rfl hK hP 3 rfl rfl dX12_deal_211 ?_
          refine lv_if_eq (tgt := 222) hx hb dX12_deal_214 (by decide) (fun c_214_6177 => ?_) (fun c_214_6177 => ?_)
          · refine lv_iload hx hb dX12_deal_222 (lv_at hl 0 rfl) ?_
            exact RI (v := r6171) hC hP hD hS [3, 0, 1, 2, 4] (jr16173, 1, nI jno, fnw (32 + 6 * jno + 0), fnw (32 + 6 * jno + 2), ip16174, gtrc6175) rfl rfl (by decide) (⟨trivial, by omega⟩) rfl dX12_deal_224
          · refine lv_bipush (v := (-15)) hx hb dX12_deal_217 (by decide) ?_
            refine lv_goto (tgt := 224) hx hb dX12_deal_219 (by decide) ?_
            exact RI (v := (-15)) hC hP hD hS [3, 0, 1, 2, 4] (jr16173, 1, nI jno, fnw (32 + 6 * jno + 0), fnw (32 + 6 * jno + 2), ip16174, gtrc6175) rfl rfl (by decide) (⟨trivial, by omega⟩) rfl dX12_deal_224
        · refine lv_aload_n hx hb dX12_deal_202 rfl (lv_at hl 3 rfl) ?_
          refine lv_iload_n hx hb dX12_deal_203 rfl (lv_at hl 5 rfl) ?_
          refine lv_iload_n hx hb dX12_deal_204 rfl (lv_at hl 6 rfl) ?_
          refine iV (wr := [(nw, .inl (G.2.1, 1662, .inl fnw)), (nsh, .inl (G.2.1, 4, .inl fnsh)), (nsf, .inl (G.2.1, 4, .inl fnsf))]) hC hK hl hP hD hS hA (m_dealt2 l G h0 x3 nw nk mhasKept nt mtaped nr mrowMany mroundOf mroundFrom mouts nm mfromHour mtoHour ns mfrom mto msort misFault mdeep mcoded mlines nl nc nF np ntr nb mbestCost nso nsi nit nsh nsf nss nrc 0 1 (nI jno) (fnw (32 + 6 * jno + 0)) (fnw (32 + 6 * jno + 2)) 0 fnrc (by omega) (by omega)) si_X12_372 [0, 4] [1, 2, 3] rfl rfl (by decide) rfl (by decide) (by decide) rfl rfl rfl rfl rfl (Nat.le_of_ble_eq_true rfl) ⟨Nat.le_of_ble_eq_true rfl, Nat.le_of_ble_eq_true rfl⟩ ⟨Nat.le_of_ble_eq_true rfl, Nat.le_of_ble_eq_true rfl⟩ dX12_deal_205 (fun r6178 u6179 H locs hr6178 hP hD hS => ?_)
          obtain ⟨jr16180, ip16181, gtrc6182⟩ := u6179
          try dsimp only at hr6178
          have hP : va_P G.1 vwCl [(nw, .inl (G.2.1, 1662, .inl fnw)), (nsh, .inl (G.2.1, 4, .inl fnsh)), (nsf, .inl (G.2.1, 4, .inl fnsf)), (h0, .inr (12, [.ref nw, .ref nk, .int mhasKept, .ref nt, .int mtaped, .ref nr, .int mrowMany, .int mroundOf, .int mroundFrom, .int mouts, .ref nm, .int mfromHour, .int mtoHour, .ref ns, .int mfrom, .int mto, .int msort, .int misFault, .int mdeep, .int mcoded, .int mlines, .ref nl, .ref nc, .ref nF, .ref np, .ref ntr, .ref nb, .int mbestCost, .ref nso, .ref nsi, .ref nit, .ref nsh, .ref nsf, .ref nss, .ref nrc, .int (nI jr16180), .int 1, .int (nI jno), .int (fnw (32 + 6 * jno + 0)), .int (fnw (32 + 6 * jno + 2)), .int ip16181])), (nrc, .inl (G.2.1, 30, .inl gtrc6182))] H := hP
          have hD : va_D A [(nw, .inl (G.2.1, 1662, .inl fnw)), (nsh, .inl (G.2.1, 4, .inl fnsh)), (nsf, .inl (G.2.1, 4, .inl fnsf)), (h0, .inr (12, [.ref nw, .ref nk, .int mhasKept, .ref nt, .int mtaped, .ref nr, .int mrowMany, .int mroundOf, .int mroundFrom, .int mouts, .ref nm, .int mfromHour, .int mtoHour, .ref ns, .int mfrom, .int mto, .int msort, .int misFault, .int mdeep, .int mcoded, .int mlines, .ref nl, .ref nc, .ref nF, .ref np, .ref ntr, .ref nb, .int mbestCost, .ref nso, .ref nsi, .ref nit, .ref nsh, .ref nsf, .ref nss, .ref nrc, .int (nI jr16180), .int 1, .int (nI jno), .int (fnw (32 + 6 * jno + 0)), .int (fnw (32 + 6 * jno + 2)), .int ip16181])), (nrc, .inl (G.2.1, 30, .inl gtrc6182))] := hD
          obtain ⟨hr6178, w6183⟩ := hr6178
          refine lv_istore (lv' := [(7, .int r6178), (6, .int 0), (5, .int 1), (4, .int 1), (0, .ref h0), (1, .int (nI jt)), (2, .int 2), (3, .int x3)]) hx hb dX12_deal_208 hl (by decide) rfl (fun ls hl => ?_)
          refine lv_aload_n hx hb dX12_deal_210 rfl (lv_at hl 4 rfl) ?_
          refine gf_X12_380 hC rfl hK hP 3 rfl rfl dX12_deal_211 ?_
          refine lv_if_eq (tgt := 222) hx hb dX12_deal_214 (by decide) (fun c_214_6184 => ?_) (fun c_214_6184 => ?_)
          · refine lv_iload hx hb dX12_deal_222 (lv_at hl 0 rfl) ?_
            exact RI (v := r6178) hC hP hD hS [3, 0, 1, 2, 4] (jr16180, 1, nI jno, fnw (32 + 6 * jno + 0), fnw (32 + 6 * jno + 2), ip16181, gtrc6182) rfl rfl (by decide) (⟨trivial, by omega⟩) rfl dX12_deal_224
          · refine lv_bipush (v := (-15)) hx hb dX12_deal_217 (by decide) ?_
            refine lv_goto (tgt := 224) hx hb dX12_deal_219 (by decide) ?_
            exact RI (v := (-15)) hC hP hD hS [3, 0, 1, 2, 4] (jr16180, 1, nI jno, fnw (32 + 6 * jno + 0), fnw (32 + 6 * jno + 2), ip16181, gtrc6182) rfl rfl (by decide) (⟨trivial, by omega⟩) rfl dX12_deal_224
        · refine lv_aload_n hx hb dX12_deal_202 rfl (lv_at hl 3 rfl) ?_
          refine lv_iload_n hx hb dX12_deal_203 rfl (lv_at hl 5 rfl) ?_
          refine lv_iload_n hx hb dX12_deal_204 rfl (lv_at hl 6 rfl) ?_
          refine iV (wr := [(nw, .inl (G.2.1, 1662, .inl fnw)), (nsh, .inl (G.2.1, 4, .inl fnsh)), (nsf, .inl (G.2.1, 4, .inl fnsf))]) hC hK hl hP hD hS hA (m_dealt3 l G h0 x3 nw nk mhasKept nt mtaped nr mrowMany mroundOf mroundFrom mouts nm mfromHour mtoHour ns mfrom mto msort misFault mdeep mcoded mlines nl nc nF np ntr nb mbestCost nso nsi nit nsh nsf nss nrc 0 1 (nI jno) (fnw (32 + 6 * jno + 0)) (fnw (32 + 6 * jno + 2)) 0 fnrc (by omega) (by omega)) si_X12_372 [0, 4] [1, 2, 3] rfl rfl (by decide) rfl (by decide) (by decide) rfl rfl rfl rfl rfl (Nat.le_of_ble_eq_true rfl) ⟨Nat.le_of_ble_eq_true rfl, Nat.le_of_ble_eq_true rfl⟩ ⟨Nat.le_of_ble_eq_true rfl, Nat.le_of_ble_eq_true rfl⟩ dX12_deal_205 (fun r6185 u6186 H locs hr6185 hP hD hS => ?_)
          obtain ⟨jr16187, ip16188, gtrc6189⟩ := u6186
          try dsimp only at hr6185
          have hP : va_P G.1 vwCl [(nw, .inl (G.2.1, 1662, .inl fnw)), (nsh, .inl (G.2.1, 4, .inl fnsh)), (nsf, .inl (G.2.1, 4, .inl fnsf)), (h0, .inr (12, [.ref nw, .ref nk, .int mhasKept, .ref nt, .int mtaped, .ref nr, .int mrowMany, .int mroundOf, .int mroundFrom, .int mouts, .ref nm, .int mfromHour, .int mtoHour, .ref ns, .int mfrom, .int mto, .int msort, .int misFault, .int mdeep, .int mcoded, .int mlines, .ref nl, .ref nc, .ref nF, .ref np, .ref ntr, .ref nb, .int mbestCost, .ref nso, .ref nsi, .ref nit, .ref nsh, .ref nsf, .ref nss, .ref nrc, .int (nI jr16187), .int 1, .int (nI jno), .int (fnw (32 + 6 * jno + 0)), .int (fnw (32 + 6 * jno + 2)), .int ip16188])), (nrc, .inl (G.2.1, 30, .inl gtrc6189))] H := hP
          have hD : va_D A [(nw, .inl (G.2.1, 1662, .inl fnw)), (nsh, .inl (G.2.1, 4, .inl fnsh)), (nsf, .inl (G.2.1, 4, .inl fnsf)), (h0, .inr (12, [.ref nw, .ref nk, .int mhasKept, .ref nt, .int mtaped, .ref nr, .int mrowMany, .int mroundOf, .int mroundFrom, .int mouts, .ref nm, .int mfromHour, .int mtoHour, .ref ns, .int mfrom, .int mto, .int msort, .int misFault, .int mdeep, .int mcoded, .int mlines, .ref nl, .ref nc, .ref nF, .ref np, .ref ntr, .ref nb, .int mbestCost, .ref nso, .ref nsi, .ref nit, .ref nsh, .ref nsf, .ref nss, .ref nrc, .int (nI jr16187), .int 1, .int (nI jno), .int (fnw (32 + 6 * jno + 0)), .int (fnw (32 + 6 * jno + 2)), .int ip16188])), (nrc, .inl (G.2.1, 30, .inl gtrc6189))] := hD
          obtain ⟨hr6185, w6190⟩ := hr6185
          refine lv_istore (lv' := [(7, .int r6185), (6, .int 0), (5, .int 1), (4, .int 1), (0, .ref h0), (1, .int (nI jt)), (2, .int 3), (3, .int x3)]) hx hb dX12_deal_208 hl (by decide) rfl (fun ls hl => ?_)
          refine lv_aload_n hx hb dX12_deal_210 rfl (lv_at hl 4 rfl) ?_
          refine gf_X12_380 hC rfl hK hP 3 rfl rfl dX12_deal_211 ?_
          refine lv_if_eq (tgt := 222) hx hb dX12_deal_214 (by decide) (fun c_214_6191 => ?_) (fun c_214_6191 => ?_)
          · refine lv_iload hx hb dX12_deal_222 (lv_at hl 0 rfl) ?_
            exact RI (v := r6185) hC hP hD hS [3, 0, 1, 2, 4] (jr16187, 1, nI jno, fnw (32 + 6 * jno + 0), fnw (32 + 6 * jno + 2), ip16188, gtrc6189) rfl rfl (by decide) (⟨trivial, by omega⟩) rfl dX12_deal_224
          · refine lv_bipush (v := (-15)) hx hb dX12_deal_217 (by decide) ?_
            refine lv_goto (tgt := 224) hx hb dX12_deal_219 (by decide) ?_
            exact RI (v := (-15)) hC hP hD hS [3, 0, 1, 2, 4] (jr16187, 1, nI jno, fnw (32 + 6 * jno + 0), fnw (32 + 6 * jno + 2), ip16188, gtrc6189) rfl rfl (by decide) (⟨trivial, by omega⟩) rfl dX12_deal_224
      · refine lv_istore (lv' := [(4, .int 2), (0, .ref h0), (1, .int (nI jt)), (2, .int x2), (3, .int x3)]) hx hb dX12_deal_28 hl (by decide) rfl (fun ls hl => ?_)
        refine lv_iload hx hb dX12_deal_30 (lv_at hl 0 rfl) ?_
        refine lv_if_ge (tgt := 37) hx hb dX12_deal_32 (by decide) (fun _ => ?_) (fun c9 => absurd (by decide) c9)
        refine lv_aload_n hx hb dX12_deal_37 rfl (lv_at hl 1 rfl) ?_
        refine lv_iload hx hb dX12_deal_38 (lv_at hl 0 rfl) ?_
        refine pf_X12_354 hC rfl hK hP hD hS 0 (ws' := [(h0, .inr (12, [.ref nw, .ref nk, .int mhasKept, .ref nt, .int mtaped, .ref nr, .int mrowMany, .int mroundOf, .int mroundFrom, .int mouts, .ref nm, .int mfromHour, .int mtoHour, .ref ns, .int mfrom, .int mto, .int msort, .int misFault, .int mdeep, .int mcoded, .int mlines, .ref nl, .ref nc, .ref nF, .ref np, .ref ntr, .ref nb, .int mbestCost, .ref nso, .ref nsi, .ref nit, .ref nsh, .ref nsf, .ref nss, .ref nrc, .int 0, .int 2, .int mnumber, .int mwhose, .int msize, .int misParted])), (nw, .inl (G.2.1, 1662, .inl fnw)), (nsh, .inl (G.2.1, 4, .inl fnsh)), (nsf, .inl (G.2.1, 4, .inl fnsf)), (nrc, .inl (G.2.1, 30, .inl fnrc))]) rfl (Nat.le_of_ble_eq_true rfl) rfl rfl rfl dX12_deal_40 (fun H locs hP hD hS => ?_)
        refine lv_aload_n hx hb dX12_deal_43 rfl (lv_at hl 1 rfl) ?_
        refine lv_aload_n hx hb dX12_deal_44 rfl (lv_at hl 1 rfl) ?_
        refine gf_X12_75 hC rfl hK hP 0 rfl rfl dX12_deal_45 ?_
        refine lv_iload_n hx hb dX12_deal_48 rfl (lv_at hl 2 rfl) ?_
        refine ald hC hK hP 3 rfl (vp_in_nI (by omega) (by omega)) (k := jt) (nI_clamp (by omega)) (v := fnsf jt) rfl dX12_deal_49 ?_
        refine lv_topi (fun x6192 ex6192 => ?_)
        obtain ⟨hko9, jno, hjno, ejno⟩ := a6156
        refine eqi (x1 := nI jno) (ex6192.trans ejno) ?_
        refine pf_X12_378 hC rfl hK hP hD hS 0 (ws' := [(h0, .inr (12, [.ref nw, .ref nk, .int mhasKept, .ref nt, .int mtaped, .ref nr, .int mrowMany, .int mroundOf, .int mroundFrom, .int mouts, .ref nm, .int mfromHour, .int mtoHour, .ref ns, .int mfrom, .int mto, .int msort, .int misFault, .int mdeep, .int mcoded, .int mlines, .ref nl, .ref nc, .ref nF, .ref np, .ref ntr, .ref nb, .int mbestCost, .ref nso, .ref nsi, .ref nit, .ref nsh, .ref nsf, .ref nss, .ref nrc, .int 0, .int 2, .int (nI jno), .int mwhose, .int msize, .int misParted])), (nw, .inl (G.2.1, 1662, .inl fnw)), (nsh, .inl (G.2.1, 4, .inl fnsh)), (nsf, .inl (G.2.1, 4, .inl fnsf)), (nrc, .inl (G.2.1, 30, .inl fnrc))]) rfl (Nat.le_of_ble_eq_true rfl) rfl rfl rfl dX12_deal_50 (fun H locs hP hD hS => ?_)
        refine lv_aload_n hx hb dX12_deal_53 rfl (lv_at hl 1 rfl) ?_
        refine gf_X12_72 hC rfl hK hP 0 rfl rfl dX12_deal_54 ?_
        refine lv_iload_n hx hb dX12_deal_57 rfl (lv_at hl 2 rfl) ?_
        refine ald hC hK hP 2 rfl (vp_in_nI (by omega) (by omega)) (k := jt) (nI_clamp (by omega)) (v := fnsh jt) rfl dX12_deal_58 ?_
        refine lv_topi (fun x6193 ex6193 => ?_)
        refine lv_iconst (v := 1) hx hb dX12_deal_59 (by decide) ?_
        refine lv_icmp_ne (tgt := 67) hx hb dX12_deal_60 (by decide) (fun c9 => absurd (ex6193.trans hko9) c9) (fun _ => ?_)
        refine lv_iconst (v := 1) hx hb dX12_deal_63 (by decide) ?_
        refine lv_goto (tgt := 68) hx hb dX12_deal_64 (by decide) ?_
        refine lv_istore (lv' := [(5, .int 1), (4, .int 2), (0, .ref h0), (1, .int (nI jt)), (2, .int x2), (3, .int x3)]) hx hb dX12_deal_68 hl (by decide) rfl (fun ls hl => ?_)
        refine lv_aload_n hx hb dX12_deal_70 rfl (lv_at hl 2 rfl) ?_
        refine gf_X12_72 hC rfl hK hP 0 rfl rfl dX12_deal_71 ?_
        refine lv_iload_n hx hb dX12_deal_74 rfl (lv_at hl 3 rfl) ?_
        refine ald hC hK hP 2 rfl (vp_in_nI (by omega) (by omega)) (k := jt) (nI_clamp (by omega)) (v := fnsh jt) rfl dX12_deal_75 ?_
        refine lv_topi (fun x6194 ex6194 => ?_)
        refine lv_iconst (v := 2) hx hb dX12_deal_76 (by decide) ?_
        refine lv_icmp_ne (tgt := 84) hx hb dX12_deal_77 (by decide) (fun _ => ?_) (fun c9 => absurd c9 (fun h9 => absurd (hko9.symm.trans ((ex6194.symm).trans h9)) (by decide)))
        refine lv_iconst (v := 0) hx hb dX12_deal_84 (by decide) ?_
        refine lv_istore (lv' := [(6, .int 0), (5, .int 1), (4, .int 2), (0, .ref h0), (1, .int (nI jt)), (2, .int x2), (3, .int x3)]) hx hb dX12_deal_85 hl (by decide) rfl (fun ls hl => ?_)
        refine lv_aload_n hx hb dX12_deal_87 rfl (lv_at hl 3 rfl) ?_
        refine lv_iload hx hb dX12_deal_88 (lv_at hl 1 rfl) ?_
        refine lv_if_eq (tgt := 105) hx hb dX12_deal_90 (by decide) (fun c9 => absurd c9 (by decide)) (fun _ => ?_)
        refine lv_aload_n hx hb dX12_deal_93 rfl (lv_at hl 3 rfl) ?_
        refine lv_aload_n hx hb dX12_deal_94 rfl (lv_at hl 3 rfl) ?_
        refine gf_X12_378 hC rfl hK hP 0 rfl rfl dX12_deal_95 ?_
        refine lv_iconst (v := 0) hx hb dX12_deal_98 (by decide) ?_
        refine pV hC hK hl hP hD (m_paper l G h0 jno 0 nw nk mhasKept nt mtaped nr mrowMany mroundOf mroundFrom mouts nm mfromHour mtoHour ns mfrom mto msort misFault mdeep mcoded mlines nl nc nF np ntr nb mbestCost nso nsi nit nsh nsf nss nrc 0 2 (nI jno) mwhose msize misParted fnw (by omega) (by omega)) si_X12_88 [0, 1] rfl rfl (by decide) rfl rfl rfl rfl rfl (Nat.le_of_ble_eq_true rfl) ⟨Nat.le_of_ble_eq_true rfl, Nat.le_of_ble_eq_true rfl⟩ ⟨by first | exact Nat.le_of_ble_eq_true rfl | exact Nat.zero_le _, by first | exact Nat.le_of_ble_eq_true rfl | exact Nat.zero_le _⟩ dX12_deal_99 (fun r6195 hr6195 => ?_)
        obtain rfl := hr6195
        refine lv_goto (tgt := 139) hx hb dX12_deal_102 (by decide) ?_
        refine pf_X12_375 hC rfl hK hP hD hS 0 (ws' := [(h0, .inr (12, [.ref nw, .ref nk, .int mhasKept, .ref nt, .int mtaped, .ref nr, .int mrowMany, .int mroundOf, .int mroundFrom, .int mouts, .ref nm, .int mfromHour, .int mtoHour, .ref ns, .int mfrom, .int mto, .int msort, .int misFault, .int mdeep, .int mcoded, .int mlines, .ref nl, .ref nc, .ref nF, .ref np, .ref ntr, .ref nb, .int mbestCost, .ref nso, .ref nsi, .ref nit, .ref nsh, .ref nsf, .ref nss, .ref nrc, .int 0, .int 2, .int (nI jno), .int (fnw (32 + 6 * jno + 0)), .int msize, .int misParted])), (nw, .inl (G.2.1, 1662, .inl fnw)), (nsh, .inl (G.2.1, 4, .inl fnsh)), (nsf, .inl (G.2.1, 4, .inl fnsf)), (nrc, .inl (G.2.1, 30, .inl fnrc))]) rfl (Nat.le_of_ble_eq_true rfl) rfl rfl rfl dX12_deal_139 (fun H locs hP hD hS => ?_)
        refine lv_aload_n hx hb dX12_deal_142 rfl (lv_at hl 3 rfl) ?_
        refine lv_iload hx hb dX12_deal_143 (lv_at hl 1 rfl) ?_
        refine lv_if_eq (tgt := 160) hx hb dX12_deal_145 (by decide) (fun c9 => absurd c9 (by decide)) (fun _ => ?_)
        refine lv_aload_n hx hb dX12_deal_148 rfl (lv_at hl 3 rfl) ?_
        refine lv_aload_n hx hb dX12_deal_149 rfl (lv_at hl 3 rfl) ?_
        refine gf_X12_378 hC rfl hK hP 0 rfl rfl dX12_deal_150 ?_
        refine lv_iconst (v := 2) hx hb dX12_deal_153 (by decide) ?_
        refine pV hC hK hl hP hD (m_paper l G h0 jno 2 nw nk mhasKept nt mtaped nr mrowMany mroundOf mroundFrom mouts nm mfromHour mtoHour ns mfrom mto msort misFault mdeep mcoded mlines nl nc nF np ntr nb mbestCost nso nsi nit nsh nsf nss nrc 0 2 (nI jno) (fnw (32 + 6 * jno + 0)) msize misParted fnw (by omega) (by omega)) si_X12_88 [0, 1] rfl rfl (by decide) rfl rfl rfl rfl rfl (Nat.le_of_ble_eq_true rfl) ⟨Nat.le_of_ble_eq_true rfl, Nat.le_of_ble_eq_true rfl⟩ ⟨by first | exact Nat.le_of_ble_eq_true rfl | exact Nat.zero_le _, by first | exact Nat.le_of_ble_eq_true rfl | exact Nat.zero_le _⟩ dX12_deal_154 (fun r6197 hr6197 => ?_)
        obtain rfl := hr6197
        refine lv_goto (tgt := 194) hx hb dX12_deal_157 (by decide) ?_
        refine pf_X12_369 hC rfl hK hP hD hS 0 (ws' := [(h0, .inr (12, [.ref nw, .ref nk, .int mhasKept, .ref nt, .int mtaped, .ref nr, .int mrowMany, .int mroundOf, .int mroundFrom, .int mouts, .ref nm, .int mfromHour, .int mtoHour, .ref ns, .int mfrom, .int mto, .int msort, .int misFault, .int mdeep, .int mcoded, .int mlines, .ref nl, .ref nc, .ref nF, .ref np, .ref ntr, .ref nb, .int mbestCost, .ref nso, .ref nsi, .ref nit, .ref nsh, .ref nsf, .ref nss, .ref nrc, .int 0, .int 2, .int (nI jno), .int (fnw (32 + 6 * jno + 0)), .int (fnw (32 + 6 * jno + 2)), .int misParted])), (nw, .inl (G.2.1, 1662, .inl fnw)), (nsh, .inl (G.2.1, 4, .inl fnsh)), (nsf, .inl (G.2.1, 4, .inl fnsf)), (nrc, .inl (G.2.1, 30, .inl fnrc))]) rfl (Nat.le_of_ble_eq_true rfl) rfl rfl rfl dX12_deal_194 (fun H locs hP hD hS => ?_)
        refine lv_aload_n hx hb dX12_deal_197 rfl (lv_at hl 3 rfl) ?_
        refine lv_iconst (v := 0) hx hb dX12_deal_198 (by decide) ?_
        refine pf_X12_380 hC rfl hK hP hD hS 0 (ws' := [(h0, .inr (12, [.ref nw, .ref nk, .int mhasKept, .ref nt, .int mtaped, .ref nr, .int mrowMany, .int mroundOf, .int mroundFrom, .int mouts, .ref nm, .int mfromHour, .int mtoHour, .ref ns, .int mfrom, .int mto, .int msort, .int misFault, .int mdeep, .int mcoded, .int mlines, .ref nl, .ref nc, .ref nF, .ref np, .ref ntr, .ref nb, .int mbestCost, .ref nso, .ref nsi, .ref nit, .ref nsh, .ref nsf, .ref nss, .ref nrc, .int 0, .int 2, .int (nI jno), .int (fnw (32 + 6 * jno + 0)), .int (fnw (32 + 6 * jno + 2)), .int 0])), (nw, .inl (G.2.1, 1662, .inl fnw)), (nsh, .inl (G.2.1, 4, .inl fnsh)), (nsf, .inl (G.2.1, 4, .inl fnsf)), (nrc, .inl (G.2.1, 30, .inl fnrc))]) rfl (Nat.le_of_ble_eq_true rfl) rfl (by decide +kernel) (by decide +kernel) dX12_deal_199 (fun H locs hP hD hS => ?_)
        obtain ⟨jdl, hjdl, rfl⟩ := Wi_nat (N := 3) (by decide) a6154
        rcases (show jdl = 0 ∨ jdl = 1 ∨ jdl = 2 ∨ jdl = 3 by omega) with rfl | rfl | rfl | rfl
        · refine lv_aload_n hx hb dX12_deal_202 rfl (lv_at hl 3 rfl) ?_
          refine lv_iload_n hx hb dX12_deal_203 rfl (lv_at hl 5 rfl) ?_
          refine lv_iload_n hx hb dX12_deal_204 rfl (lv_at hl 6 rfl) ?_
          refine iV (wr := [(nw, .inl (G.2.1, 1662, .inl fnw)), (nsh, .inl (G.2.1, 4, .inl fnsh)), (nsf, .inl (G.2.1, 4, .inl fnsf))]) hC hK hl hP hD hS hA (m_dealt0 l G h0 x3 nw nk mhasKept nt mtaped nr mrowMany mroundOf mroundFrom mouts nm mfromHour mtoHour ns mfrom mto msort misFault mdeep mcoded mlines nl nc nF np ntr nb mbestCost nso nsi nit nsh nsf nss nrc 0 2 (nI jno) (fnw (32 + 6 * jno + 0)) (fnw (32 + 6 * jno + 2)) 0 fnrc (by omega) (by omega)) si_X12_372 [0, 4] [1, 2, 3] rfl rfl (by decide) rfl (by decide) (by decide) rfl rfl rfl rfl rfl (Nat.le_of_ble_eq_true rfl) ⟨Nat.le_of_ble_eq_true rfl, Nat.le_of_ble_eq_true rfl⟩ ⟨Nat.le_of_ble_eq_true rfl, Nat.le_of_ble_eq_true rfl⟩ dX12_deal_205 (fun r6199 u6200 H locs hr6199 hP hD hS => ?_)
          obtain ⟨jr16201, ip16202, gtrc6203⟩ := u6200
          try dsimp only at hr6199
          have hP : va_P G.1 vwCl [(nw, .inl (G.2.1, 1662, .inl fnw)), (nsh, .inl (G.2.1, 4, .inl fnsh)), (nsf, .inl (G.2.1, 4, .inl fnsf)), (h0, .inr (12, [.ref nw, .ref nk, .int mhasKept, .ref nt, .int mtaped, .ref nr, .int mrowMany, .int mroundOf, .int mroundFrom, .int mouts, .ref nm, .int mfromHour, .int mtoHour, .ref ns, .int mfrom, .int mto, .int msort, .int misFault, .int mdeep, .int mcoded, .int mlines, .ref nl, .ref nc, .ref nF, .ref np, .ref ntr, .ref nb, .int mbestCost, .ref nso, .ref nsi, .ref nit, .ref nsh, .ref nsf, .ref nss, .ref nrc, .int (nI jr16201), .int 2, .int (nI jno), .int (fnw (32 + 6 * jno + 0)), .int (fnw (32 + 6 * jno + 2)), .int ip16202])), (nrc, .inl (G.2.1, 30, .inl gtrc6203))] H := hP
          have hD : va_D A [(nw, .inl (G.2.1, 1662, .inl fnw)), (nsh, .inl (G.2.1, 4, .inl fnsh)), (nsf, .inl (G.2.1, 4, .inl fnsf)), (h0, .inr (12, [.ref nw, .ref nk, .int mhasKept, .ref nt, .int mtaped, .ref nr, .int mrowMany, .int mroundOf, .int mroundFrom, .int mouts, .ref nm, .int mfromHour, .int mtoHour, .ref ns, .int mfrom, .int mto, .int msort, .int misFault, .int mdeep, .int mcoded, .int mlines, .ref nl, .ref nc, .ref nF, .ref np, .ref ntr, .ref nb, .int mbestCost, .ref nso, .ref nsi, .ref nit, .ref nsh, .ref nsf, .ref nss, .ref nrc, .int (nI jr16201), .int 2, .int (nI jno), .int (fnw (32 + 6 * jno + 0)), .int (fnw (32 + 6 * jno + 2)), .int ip16202])), (nrc, .inl (G.2.1, 30, .inl gtrc6203))] := hD
          obtain ⟨hr6199, w6204⟩ := hr6199
          refine lv_istore (lv' := [(7, .int r6199), (6, .int 0), (5, .int 1), (4, .int 2), (0, .ref h0), (1, .int (nI jt)), (2, .int 0), (3, .int x3)]) hx hb dX12_deal_208 hl (by decide) rfl (fun ls hl => ?_)
          refine lv_aload_n hx hb dX12_deal_210 rfl (lv_at hl 4 rfl) ?_
          refine gf_X12_380 hC rfl hK hP 3 rfl rfl dX12_deal_211 ?_
          refine lv_if_eq (tgt := 222) hx hb dX12_deal_214 (by decide) (fun c_214_6205 => ?_) (fun c_214_6205 => ?_)
          · refine lv_iload hx hb dX12_deal_222 (lv_at hl 0 rfl) ?_
            exact RI (v := r6199) hC hP hD hS [3, 0, 1, 2, 4] (jr16201, 2, nI jno, fnw (32 + 6 * jno + 0), fnw (32 + 6 * jno + 2), ip16202, gtrc6203) rfl rfl (by decide) (⟨trivial, by omega⟩) rfl dX12_deal_224
          · refine lv_bipush (v := (-15)) hx hb dX12_deal_217 (by decide) ?_
            refine lv_goto (tgt := 224) hx hb dX12_deal_219 (by decide) ?_
            exact RI (v := (-15)) hC hP hD hS [3, 0, 1, 2, 4] (jr16201, 2, nI jno, fnw (32 + 6 * jno + 0), fnw (32 + 6 * jno + 2), ip16202, gtrc6203) rfl rfl (by decide) (⟨trivial, by omega⟩) rfl dX12_deal_224
        · refine lv_aload_n hx hb dX12_deal_202 rfl (lv_at hl 3 rfl) ?_
          refine lv_iload_n hx hb dX12_deal_203 rfl (lv_at hl 5 rfl) ?_
          refine lv_iload_n hx hb dX12_deal_204 rfl (lv_at hl 6 rfl) ?_
          refine iV (wr := [(nw, .inl (G.2.1, 1662, .inl fnw)), (nsh, .inl (G.2.1, 4, .inl fnsh)), (nsf, .inl (G.2.1, 4, .inl fnsf))]) hC hK hl hP hD hS hA (m_dealt1 l G h0 x3 nw nk mhasKept nt mtaped nr mrowMany mroundOf mroundFrom mouts nm mfromHour mtoHour ns mfrom mto msort misFault mdeep mcoded mlines nl nc nF np ntr nb mbestCost nso nsi nit nsh nsf nss nrc 0 2 (nI jno) (fnw (32 + 6 * jno + 0)) (fnw (32 + 6 * jno + 2)) 0 fnrc (by omega) (by omega)) si_X12_372 [0, 4] [1, 2, 3] rfl rfl (by decide) rfl (by decide) (by decide) rfl rfl rfl rfl rfl (Nat.le_of_ble_eq_true rfl) ⟨Nat.le_of_ble_eq_true rfl, Nat.le_of_ble_eq_true rfl⟩ ⟨Nat.le_of_ble_eq_true rfl, Nat.le_of_ble_eq_true rfl⟩ dX12_deal_205 (fun r6206 u6207 H locs hr6206 hP hD hS => ?_)
          obtain ⟨jr16208, ip16209, gtrc6210⟩ := u6207
          try dsimp only at hr6206
          have hP : va_P G.1 vwCl [(nw, .inl (G.2.1, 1662, .inl fnw)), (nsh, .inl (G.2.1, 4, .inl fnsh)), (nsf, .inl (G.2.1, 4, .inl fnsf)), (h0, .inr (12, [.ref nw, .ref nk, .int mhasKept, .ref nt, .int mtaped, .ref nr, .int mrowMany, .int mroundOf, .int mroundFrom, .int mouts, .ref nm, .int mfromHour, .int mtoHour, .ref ns, .int mfrom, .int mto, .int msort, .int misFault, .int mdeep, .int mcoded, .int mlines, .ref nl, .ref nc, .ref nF, .ref np, .ref ntr, .ref nb, .int mbestCost, .ref nso, .ref nsi, .ref nit, .ref nsh, .ref nsf, .ref nss, .ref nrc, .int (nI jr16208), .int 2, .int (nI jno), .int (fnw (32 + 6 * jno + 0)), .int (fnw (32 + 6 * jno + 2)), .int ip16209])), (nrc, .inl (G.2.1, 30, .inl gtrc6210))] H := hP
          have hD : va_D A [(nw, .inl (G.2.1, 1662, .inl fnw)), (nsh, .inl (G.2.1, 4, .inl fnsh)), (nsf, .inl (G.2.1, 4, .inl fnsf)), (h0, .inr (12, [.ref nw, .ref nk, .int mhasKept, .ref nt, .int mtaped, .ref nr, .int mrowMany, .int mroundOf, .int mroundFrom, .int mouts, .ref nm, .int mfromHour, .int mtoHour, .ref ns, .int mfrom, .int mto, .int msort, .int misFault, .int mdeep, .int mcoded, .int mlines, .ref nl, .ref nc, .ref nF, .ref np, .ref ntr, .ref nb, .int mbestCost, .ref nso, .ref nsi, .ref nit, .ref nsh, .ref nsf, .ref nss, .ref nrc, .int (nI jr16208), .int 2, .int (nI jno), .int (fnw (32 + 6 * jno + 0)), .int (fnw (32 + 6 * jno + 2)), .int ip16209])), (nrc, .inl (G.2.1, 30, .inl gtrc6210))] := hD
          obtain ⟨hr6206, w6211⟩ := hr6206
          refine lv_istore (lv' := [(7, .int r6206), (6, .int 0), (5, .int 1), (4, .int 2), (0, .ref h0), (1, .int (nI jt)), (2, .int 1), (3, .int x3)]) hx hb dX12_deal_208 hl (by decide) rfl (fun ls hl => ?_)
          refine lv_aload_n hx hb dX12_deal_210 rfl (lv_at hl 4 rfl) ?_
          refine gf_X12_380 hC rfl hK hP 3 rfl rfl dX12_deal_211 ?_
          refine lv_if_eq (tgt := 222) hx hb dX12_deal_214 (by decide) (fun c_214_6212 => ?_) (fun c_214_6212 => ?_)
          · refine lv_iload hx hb dX12_deal_222 (lv_at hl 0 rfl) ?_
            exact RI (v := r6206) hC hP hD hS [3, 0, 1, 2, 4] (jr16208, 2, nI jno, fnw (32 + 6 * jno + 0), fnw (32 + 6 * jno + 2), ip16209, gtrc6210) rfl rfl (by decide) (⟨trivial, by omega⟩) rfl dX12_deal_224
          · refine lv_bipush (v := (-15)) hx hb dX12_deal_217 (by decide) ?_
            refine lv_goto (tgt := 224) hx hb dX12_deal_219 (by decide) ?_
            exact RI (v := (-15)) hC hP hD hS [3, 0, 1, 2, 4] (jr16208, 2, nI jno, fnw (32 + 6 * jno + 0), fnw (32 + 6 * jno + 2), ip16209, gtrc6210) rfl rfl (by decide) (⟨trivial, by omega⟩) rfl dX12_deal_224
        · refine lv_aload_n hx hb dX12_deal_202 rfl (lv_at hl 3 rfl) ?_
          refine lv_iload_n hx hb dX12_deal_203 rfl (lv_at hl 5 rfl) ?_
          refine lv_iload_n hx hb dX12_deal_204 rfl (lv_at hl 6 rfl) ?_
          refine iV (wr := [(nw, .inl (G.2.1, 1662, .inl fnw)), (nsh, .inl (G.2.1, 4, .inl fnsh)), (nsf, .inl (G.2.1, 4, .inl fnsf))]) hC hK hl hP hD hS hA (m_dealt2 l G h0 x3 nw nk mhasKept nt mtaped nr mrowMany mroundOf mroundFrom mouts nm mfromHour mtoHour ns mfrom mto msort misFault mdeep mcoded mlines nl nc nF np ntr nb mbestCost nso nsi nit nsh nsf nss nrc 0 2 (nI jno) (fnw (32 + 6 * jno + 0)) (fnw (32 + 6 * jno + 2)) 0 fnrc (by omega) (by omega)) si_X12_372 [0, 4] [1, 2, 3] rfl rfl (by decide) rfl (by decide) (by decide) rfl rfl rfl rfl rfl (Nat.le_of_ble_eq_true rfl) ⟨Nat.le_of_ble_eq_true rfl, Nat.le_of_ble_eq_true rfl⟩ ⟨Nat.le_of_ble_eq_true rfl, Nat.le_of_ble_eq_true rfl⟩ dX12_deal_205 (fun r6213 u6214 H locs hr6213 hP hD hS => ?_)
          obtain ⟨jr16215, ip16216, gtrc6217⟩ := u6214
          try dsimp only at hr6213
          have hP : va_P G.1 vwCl [(nw, .inl (G.2.1, 1662, .inl fnw)), (nsh, .inl (G.2.1, 4, .inl fnsh)), (nsf, .inl (G.2.1, 4, .inl fnsf)), (h0, .inr (12, [.ref nw, .ref nk, .int mhasKept, .ref nt, .int mtaped, .ref nr, .int mrowMany, .int mroundOf, .int mroundFrom, .int mouts, .ref nm, .int mfromHour, .int mtoHour, .ref ns, .int mfrom, .int mto, .int msort, .int misFault, .int mdeep, .int mcoded, .int mlines, .ref nl, .ref nc, .ref nF, .ref np, .ref ntr, .ref nb, .int mbestCost, .ref nso, .ref nsi, .ref nit, .ref nsh, .ref nsf, .ref nss, .ref nrc, .int (nI jr16215), .int 2, .int (nI jno), .int (fnw (32 + 6 * jno + 0)), .int (fnw (32 + 6 * jno + 2)), .int ip16216])), (nrc, .inl (G.2.1, 30, .inl gtrc6217))] H := hP
          have hD : va_D A [(nw, .inl (G.2.1, 1662, .inl fnw)), (nsh, .inl (G.2.1, 4, .inl fnsh)), (nsf, .inl (G.2.1, 4, .inl fnsf)), (h0, .inr (12, [.ref nw, .ref nk, .int mhasKept, .ref nt, .int mtaped, .ref nr, .int mrowMany, .int mroundOf, .int mroundFrom, .int mouts, .ref nm, .int mfromHour, .int mtoHour, .ref ns, .int mfrom, .int mto, .int msort, .int misFault, .int mdeep, .int mcoded, .int mlines, .ref nl, .ref nc, .ref nF, .ref np, .ref ntr, .ref nb, .int mbestCost, .ref nso, .ref nsi, .ref nit, .ref nsh, .ref nsf, .ref nss, .ref nrc, .int (nI jr16215), .int 2, .int (nI jno), .int (fnw (32 + 6 * jno + 0)), .int (fnw (32 + 6 * jno + 2)), .int ip16216])), (nrc, .inl (G.2.1, 30, .inl gtrc6217))] := hD
          obtain ⟨hr6213, w6218⟩ := hr6213
          refine lv_istore (lv' := [(7, .int r6213), (6, .int 0), (5, .int 1), (4, .int 2), (0, .ref h0), (1, .int (nI jt)), (2, .int 2), (3, .int x3)]) hx hb dX12_deal_208 hl (by decide) rfl (fun ls hl => ?_)
          refine lv_aload_n hx hb dX12_deal_210 rfl (lv_at hl 4 rfl) ?_
          refine gf_X12_380 hC rfl hK hP 3 rfl rfl dX12_deal_211 ?_
          refine lv_if_eq (tgt := 222) hx hb dX12_deal_214 (by decide) (fun c_214_6219 => ?_) (fun c_214_6219 => ?_)
          · refine lv_iload hx hb dX12_deal_222 (lv_at hl 0 rfl) ?_
            exact RI (v := r6213) hC hP hD hS [3, 0, 1, 2, 4] (jr16215, 2, nI jno, fnw (32 + 6 * jno + 0), fnw (32 + 6 * jno + 2), ip16216, gtrc6217) rfl rfl (by decide) (⟨trivial, by omega⟩) rfl dX12_deal_224
          · refine lv_bipush (v := (-15)) hx hb dX12_deal_217 (by decide) ?_
            refine lv_goto (tgt := 224) hx hb dX12_deal_219 (by decide) ?_
            exact RI (v := (-15)) hC hP hD hS [3, 0, 1, 2, 4] (jr16215, 2, nI jno, fnw (32 + 6 * jno + 0), fnw (32 + 6 * jno + 2), ip16216, gtrc6217) rfl rfl (by decide) (⟨trivial, by omega⟩) rfl dX12_deal_224
        · refine lv_aload_n hx hb dX12_deal_202 rfl (lv_at hl 3 rfl) ?_
          refine lv_iload_n hx hb dX12_deal_203 rfl (lv_at hl 5 rfl) ?_
          refine lv_iload_n hx hb dX12_deal_204 rfl (lv_at hl 6 rfl) ?_
          refine iV (wr := [(nw, .inl (G.2.1, 1662, .inl fnw)), (nsh, .inl (G.2.1, 4, .inl fnsh)), (nsf, .inl (G.2.1, 4, .inl fnsf))]) hC hK hl hP hD hS hA (m_dealt3 l G h0 x3 nw nk mhasKept nt mtaped nr mrowMany mroundOf mroundFrom mouts nm mfromHour mtoHour ns mfrom mto msort misFault mdeep mcoded mlines nl nc nF np ntr nb mbestCost nso nsi nit nsh nsf nss nrc 0 2 (nI jno) (fnw (32 + 6 * jno + 0)) (fnw (32 + 6 * jno + 2)) 0 fnrc (by omega) (by omega)) si_X12_372 [0, 4] [1, 2, 3] rfl rfl (by decide) rfl (by decide) (by decide) rfl rfl rfl rfl rfl (Nat.le_of_ble_eq_true rfl) ⟨Nat.le_of_ble_eq_true rfl, Nat.le_of_ble_eq_true rfl⟩ ⟨Nat.le_of_ble_eq_true rfl, Nat.le_of_ble_eq_true rfl⟩ dX12_deal_205 (fun r6220 u6221 H locs hr6220 hP hD hS => ?_)
          obtain ⟨jr16222, ip16223, gtrc6224⟩ := u6221
          try dsimp only at hr6220
          have hP : va_P G.1 vwCl [(nw, .inl (G.2.1, 1662, .inl fnw)), (nsh, .inl (G.2.1, 4, .inl fnsh)), (nsf, .inl (G.2.1, 4, .inl fnsf)), (h0, .inr (12, [.ref nw, .ref nk, .int mhasKept, .ref nt, .int mtaped, .ref nr, .int mrowMany, .int mroundOf, .int mroundFrom, .int mouts, .ref nm, .int mfromHour, .int mtoHour, .ref ns, .int mfrom, .int mto, .int msort, .int misFault, .int mdeep, .int mcoded, .int mlines, .ref nl, .ref nc, .ref nF, .ref np, .ref ntr, .ref nb, .int mbestCost, .ref nso, .ref nsi, .ref nit, .ref nsh, .ref nsf, .ref nss, .ref nrc, .int (nI jr16222), .int 2, .int (nI jno), .int (fnw (32 + 6 * jno + 0)), .int (fnw (32 + 6 * jno + 2)), .int ip16223])), (nrc, .inl (G.2.1, 30, .inl gtrc6224))] H := hP
          have hD : va_D A [(nw, .inl (G.2.1, 1662, .inl fnw)), (nsh, .inl (G.2.1, 4, .inl fnsh)), (nsf, .inl (G.2.1, 4, .inl fnsf)), (h0, .inr (12, [.ref nw, .ref nk, .int mhasKept, .ref nt, .int mtaped, .ref nr, .int mrowMany, .int mroundOf, .int mroundFrom, .int mouts, .ref nm, .int mfromHour, .int mtoHour, .ref ns, .int mfrom, .int mto, .int msort, .int misFault, .int mdeep, .int mcoded, .int mlines, .ref nl, .ref nc, .ref nF, .ref np, .ref ntr, .ref nb, .int mbestCost, .ref nso, .ref nsi, .ref nit, .ref nsh, .ref nsf, .ref nss, .ref nrc, .int (nI jr16222), .int 2, .int (nI jno), .int (fnw (32 + 6 * jno + 0)), .int (fnw (32 + 6 * jno + 2)), .int ip16223])), (nrc, .inl (G.2.1, 30, .inl gtrc6224))] := hD
          obtain ⟨hr6220, w6225⟩ := hr6220
          refine lv_istore (lv' := [(7, .int r6220), (6, .int 0), (5, .int 1), (4, .int 2), (0, .ref h0), (1, .int (nI jt)), (2, .int 3), (3, .int x3)]) hx hb dX12_deal_208 hl (by decide) rfl (fun ls hl => ?_)
          refine lv_aload_n hx hb dX12_deal_210 rfl (lv_at hl 4 rfl) ?_
          refine gf_X12_380 hC rfl hK hP 3 rfl rfl dX12_deal_211 ?_
          refine lv_if_eq (tgt := 222) hx hb dX12_deal_214 (by decide) (fun c_214_6226 => ?_) (fun c_214_6226 => ?_)
          · refine lv_iload hx hb dX12_deal_222 (lv_at hl 0 rfl) ?_
            exact RI (v := r6220) hC hP hD hS [3, 0, 1, 2, 4] (jr16222, 2, nI jno, fnw (32 + 6 * jno + 0), fnw (32 + 6 * jno + 2), ip16223, gtrc6224) rfl rfl (by decide) (⟨trivial, by omega⟩) rfl dX12_deal_224
          · refine lv_bipush (v := (-15)) hx hb dX12_deal_217 (by decide) ?_
            refine lv_goto (tgt := 224) hx hb dX12_deal_219 (by decide) ?_
            exact RI (v := (-15)) hC hP hD hS [3, 0, 1, 2, 4] (jr16222, 2, nI jno, fnw (32 + 6 * jno + 0), fnw (32 + 6 * jno + 2), ip16223, gtrc6224) rfl rfl (by decide) (⟨trivial, by omega⟩) rfl dX12_deal_224
      · refine lv_istore (lv' := [(4, .int 3), (0, .ref h0), (1, .int (nI jt)), (2, .int x2), (3, .int x3)]) hx hb dX12_deal_28 hl (by decide) rfl (fun ls hl => ?_)
        refine lv_iload hx hb dX12_deal_30 (lv_at hl 0 rfl) ?_
        refine lv_if_ge (tgt := 37) hx hb dX12_deal_32 (by decide) (fun _ => ?_) (fun c9 => absurd (by decide) c9)
        refine lv_aload_n hx hb dX12_deal_37 rfl (lv_at hl 1 rfl) ?_
        refine lv_iload hx hb dX12_deal_38 (lv_at hl 0 rfl) ?_
        refine pf_X12_354 hC rfl hK hP hD hS 0 (ws' := [(h0, .inr (12, [.ref nw, .ref nk, .int mhasKept, .ref nt, .int mtaped, .ref nr, .int mrowMany, .int mroundOf, .int mroundFrom, .int mouts, .ref nm, .int mfromHour, .int mtoHour, .ref ns, .int mfrom, .int mto, .int msort, .int misFault, .int mdeep, .int mcoded, .int mlines, .ref nl, .ref nc, .ref nF, .ref np, .ref ntr, .ref nb, .int mbestCost, .ref nso, .ref nsi, .ref nit, .ref nsh, .ref nsf, .ref nss, .ref nrc, .int 0, .int 3, .int mnumber, .int mwhose, .int msize, .int misParted])), (nw, .inl (G.2.1, 1662, .inl fnw)), (nsh, .inl (G.2.1, 4, .inl fnsh)), (nsf, .inl (G.2.1, 4, .inl fnsf)), (nrc, .inl (G.2.1, 30, .inl fnrc))]) rfl (Nat.le_of_ble_eq_true rfl) rfl rfl rfl dX12_deal_40 (fun H locs hP hD hS => ?_)
        refine lv_aload_n hx hb dX12_deal_43 rfl (lv_at hl 1 rfl) ?_
        refine lv_aload_n hx hb dX12_deal_44 rfl (lv_at hl 1 rfl) ?_
        refine gf_X12_75 hC rfl hK hP 0 rfl rfl dX12_deal_45 ?_
        refine lv_iload_n hx hb dX12_deal_48 rfl (lv_at hl 2 rfl) ?_
        refine ald hC hK hP 3 rfl (vp_in_nI (by omega) (by omega)) (k := jt) (nI_clamp (by omega)) (v := fnsf jt) rfl dX12_deal_49 ?_
        refine lv_topi (fun x6227 ex6227 => ?_)
        obtain ⟨hko9, jno, hjno, ejno⟩ := a6156
        refine eqi (x1 := nI jno) (ex6227.trans ejno) ?_
        refine pf_X12_378 hC rfl hK hP hD hS 0 (ws' := [(h0, .inr (12, [.ref nw, .ref nk, .int mhasKept, .ref nt, .int mtaped, .ref nr, .int mrowMany, .int mroundOf, .int mroundFrom, .int mouts, .ref nm, .int mfromHour, .int mtoHour, .ref ns, .int mfrom, .int mto, .int msort, .int misFault, .int mdeep, .int mcoded, .int mlines, .ref nl, .ref nc, .ref nF, .ref np, .ref ntr, .ref nb, .int mbestCost, .ref nso, .ref nsi, .ref nit, .ref nsh, .ref nsf, .ref nss, .ref nrc, .int 0, .int 3, .int (nI jno), .int mwhose, .int msize, .int misParted])), (nw, .inl (G.2.1, 1662, .inl fnw)), (nsh, .inl (G.2.1, 4, .inl fnsh)), (nsf, .inl (G.2.1, 4, .inl fnsf)), (nrc, .inl (G.2.1, 30, .inl fnrc))]) rfl (Nat.le_of_ble_eq_true rfl) rfl rfl rfl dX12_deal_50 (fun H locs hP hD hS => ?_)
        refine lv_aload_n hx hb dX12_deal_53 rfl (lv_at hl 1 rfl) ?_
        refine gf_X12_72 hC rfl hK hP 0 rfl rfl dX12_deal_54 ?_
        refine lv_iload_n hx hb dX12_deal_57 rfl (lv_at hl 2 rfl) ?_
        refine ald hC hK hP 2 rfl (vp_in_nI (by omega) (by omega)) (k := jt) (nI_clamp (by omega)) (v := fnsh jt) rfl dX12_deal_58 ?_
        refine lv_topi (fun x6228 ex6228 => ?_)
        refine lv_iconst (v := 1) hx hb dX12_deal_59 (by decide) ?_
        refine lv_icmp_ne (tgt := 67) hx hb dX12_deal_60 (by decide) (fun c9 => absurd (ex6228.trans hko9) c9) (fun _ => ?_)
        refine lv_iconst (v := 1) hx hb dX12_deal_63 (by decide) ?_
        refine lv_goto (tgt := 68) hx hb dX12_deal_64 (by decide) ?_
        refine lv_istore (lv' := [(5, .int 1), (4, .int 3), (0, .ref h0), (1, .int (nI jt)), (2, .int x2), (3, .int x3)]) hx hb dX12_deal_68 hl (by decide) rfl (fun ls hl => ?_)
        refine lv_aload_n hx hb dX12_deal_70 rfl (lv_at hl 2 rfl) ?_
        refine gf_X12_72 hC rfl hK hP 0 rfl rfl dX12_deal_71 ?_
        refine lv_iload_n hx hb dX12_deal_74 rfl (lv_at hl 3 rfl) ?_
        refine ald hC hK hP 2 rfl (vp_in_nI (by omega) (by omega)) (k := jt) (nI_clamp (by omega)) (v := fnsh jt) rfl dX12_deal_75 ?_
        refine lv_topi (fun x6229 ex6229 => ?_)
        refine lv_iconst (v := 2) hx hb dX12_deal_76 (by decide) ?_
        refine lv_icmp_ne (tgt := 84) hx hb dX12_deal_77 (by decide) (fun _ => ?_) (fun c9 => absurd c9 (fun h9 => absurd (hko9.symm.trans ((ex6229.symm).trans h9)) (by decide)))
        refine lv_iconst (v := 0) hx hb dX12_deal_84 (by decide) ?_
        refine lv_istore (lv' := [(6, .int 0), (5, .int 1), (4, .int 3), (0, .ref h0), (1, .int (nI jt)), (2, .int x2), (3, .int x3)]) hx hb dX12_deal_85 hl (by decide) rfl (fun ls hl => ?_)
        refine lv_aload_n hx hb dX12_deal_87 rfl (lv_at hl 3 rfl) ?_
        refine lv_iload hx hb dX12_deal_88 (lv_at hl 1 rfl) ?_
        refine lv_if_eq (tgt := 105) hx hb dX12_deal_90 (by decide) (fun c9 => absurd c9 (by decide)) (fun _ => ?_)
        refine lv_aload_n hx hb dX12_deal_93 rfl (lv_at hl 3 rfl) ?_
        refine lv_aload_n hx hb dX12_deal_94 rfl (lv_at hl 3 rfl) ?_
        refine gf_X12_378 hC rfl hK hP 0 rfl rfl dX12_deal_95 ?_
        refine lv_iconst (v := 0) hx hb dX12_deal_98 (by decide) ?_
        refine pV hC hK hl hP hD (m_paper l G h0 jno 0 nw nk mhasKept nt mtaped nr mrowMany mroundOf mroundFrom mouts nm mfromHour mtoHour ns mfrom mto msort misFault mdeep mcoded mlines nl nc nF np ntr nb mbestCost nso nsi nit nsh nsf nss nrc 0 3 (nI jno) mwhose msize misParted fnw (by omega) (by omega)) si_X12_88 [0, 1] rfl rfl (by decide) rfl rfl rfl rfl rfl (Nat.le_of_ble_eq_true rfl) ⟨Nat.le_of_ble_eq_true rfl, Nat.le_of_ble_eq_true rfl⟩ ⟨by first | exact Nat.le_of_ble_eq_true rfl | exact Nat.zero_le _, by first | exact Nat.le_of_ble_eq_true rfl | exact Nat.zero_le _⟩ dX12_deal_99 (fun r6230 hr6230 => ?_)
        obtain rfl := hr6230
        refine lv_goto (tgt := 139) hx hb dX12_deal_102 (by decide) ?_
        refine pf_X12_375 hC rfl hK hP hD hS 0 (ws' := [(h0, .inr (12, [.ref nw, .ref nk, .int mhasKept, .ref nt, .int mtaped, .ref nr, .int mrowMany, .int mroundOf, .int mroundFrom, .int mouts, .ref nm, .int mfromHour, .int mtoHour, .ref ns, .int mfrom, .int mto, .int msort, .int misFault, .int mdeep, .int mcoded, .int mlines, .ref nl, .ref nc, .ref nF, .ref np, .ref ntr, .ref nb, .int mbestCost, .ref nso, .ref nsi, .ref nit, .ref nsh, .ref nsf, .ref nss, .ref nrc, .int 0, .int 3, .int (nI jno), .int (fnw (32 + 6 * jno + 0)), .int msize, .int misParted])), (nw, .inl (G.2.1, 1662, .inl fnw)), (nsh, .inl (G.2.1, 4, .inl fnsh)), (nsf, .inl (G.2.1, 4, .inl fnsf)), (nrc, .inl (G.2.1, 30, .inl fnrc))]) rfl (Nat.le_of_ble_eq_true rfl) rfl rfl rfl dX12_deal_139 (fun H locs hP hD hS => ?_)
        refine lv_aload_n hx hb dX12_deal_142 rfl (lv_at hl 3 rfl) ?_
        refine lv_iload hx hb dX12_deal_143 (lv_at hl 1 rfl) ?_
        refine lv_if_eq (tgt := 160) hx hb dX12_deal_145 (by decide) (fun c9 => absurd c9 (by decide)) (fun _ => ?_)
        refine lv_aload_n hx hb dX12_deal_148 rfl (lv_at hl 3 rfl) ?_
        refine lv_aload_n hx hb dX12_deal_149 rfl (lv_at hl 3 rfl) ?_
        refine gf_X12_378 hC rfl hK hP 0 rfl rfl dX12_deal_150 ?_
        refine lv_iconst (v := 2) hx hb dX12_deal_153 (by decide) ?_
        refine pV hC hK hl hP hD (m_paper l G h0 jno 2 nw nk mhasKept nt mtaped nr mrowMany mroundOf mroundFrom mouts nm mfromHour mtoHour ns mfrom mto msort misFault mdeep mcoded mlines nl nc nF np ntr nb mbestCost nso nsi nit nsh nsf nss nrc 0 3 (nI jno) (fnw (32 + 6 * jno + 0)) msize misParted fnw (by omega) (by omega)) si_X12_88 [0, 1] rfl rfl (by decide) rfl rfl rfl rfl rfl (Nat.le_of_ble_eq_true rfl) ⟨Nat.le_of_ble_eq_true rfl, Nat.le_of_ble_eq_true rfl⟩ ⟨by first | exact Nat.le_of_ble_eq_true rfl | exact Nat.zero_le _, by first | exact Nat.le_of_ble_eq_true rfl | exact Nat.zero_le _⟩ dX12_deal_154 (fun r6232 hr6232 => ?_)
        obtain rfl := hr6232
        refine lv_goto (tgt := 194) hx hb dX12_deal_157 (by decide) ?_
        refine pf_X12_369 hC rfl hK hP hD hS 0 (ws' := [(h0, .inr (12, [.ref nw, .ref nk, .int mhasKept, .ref nt, .int mtaped, .ref nr, .int mrowMany, .int mroundOf, .int mroundFrom, .int mouts, .ref nm, .int mfromHour, .int mtoHour, .ref ns, .int mfrom, .int mto, .int msort, .int misFault, .int mdeep, .int mcoded, .int mlines, .ref nl, .ref nc, .ref nF, .ref np, .ref ntr, .ref nb, .int mbestCost, .ref nso, .ref nsi, .ref nit, .ref nsh, .ref nsf, .ref nss, .ref nrc, .int 0, .int 3, .int (nI jno), .int (fnw (32 + 6 * jno + 0)), .int (fnw (32 + 6 * jno + 2)), .int misParted])), (nw, .inl (G.2.1, 1662, .inl fnw)), (nsh, .inl (G.2.1, 4, .inl fnsh)), (nsf, .inl (G.2.1, 4, .inl fnsf)), (nrc, .inl (G.2.1, 30, .inl fnrc))]) rfl (Nat.le_of_ble_eq_true rfl) rfl rfl rfl dX12_deal_194 (fun H locs hP hD hS => ?_)
        refine lv_aload_n hx hb dX12_deal_197 rfl (lv_at hl 3 rfl) ?_
        refine lv_iconst (v := 0) hx hb dX12_deal_198 (by decide) ?_
        refine pf_X12_380 hC rfl hK hP hD hS 0 (ws' := [(h0, .inr (12, [.ref nw, .ref nk, .int mhasKept, .ref nt, .int mtaped, .ref nr, .int mrowMany, .int mroundOf, .int mroundFrom, .int mouts, .ref nm, .int mfromHour, .int mtoHour, .ref ns, .int mfrom, .int mto, .int msort, .int misFault, .int mdeep, .int mcoded, .int mlines, .ref nl, .ref nc, .ref nF, .ref np, .ref ntr, .ref nb, .int mbestCost, .ref nso, .ref nsi, .ref nit, .ref nsh, .ref nsf, .ref nss, .ref nrc, .int 0, .int 3, .int (nI jno), .int (fnw (32 + 6 * jno + 0)), .int (fnw (32 + 6 * jno + 2)), .int 0])), (nw, .inl (G.2.1, 1662, .inl fnw)), (nsh, .inl (G.2.1, 4, .inl fnsh)), (nsf, .inl (G.2.1, 4, .inl fnsf)), (nrc, .inl (G.2.1, 30, .inl fnrc))]) rfl (Nat.le_of_ble_eq_true rfl) rfl (by decide +kernel) (by decide +kernel) dX12_deal_199 (fun H locs hP hD hS => ?_)
        obtain ⟨jdl, hjdl, rfl⟩ := Wi_nat (N := 3) (by decide) a6154
        rcases (show jdl = 0 ∨ jdl = 1 ∨ jdl = 2 ∨ jdl = 3 by omega) with rfl | rfl | rfl | rfl
        · refine lv_aload_n hx hb dX12_deal_202 rfl (lv_at hl 3 rfl) ?_
          refine lv_iload_n hx hb dX12_deal_203 rfl (lv_at hl 5 rfl) ?_
          refine lv_iload_n hx hb dX12_deal_204 rfl (lv_at hl 6 rfl) ?_
          refine iV (wr := [(nw, .inl (G.2.1, 1662, .inl fnw)), (nsh, .inl (G.2.1, 4, .inl fnsh)), (nsf, .inl (G.2.1, 4, .inl fnsf))]) hC hK hl hP hD hS hA (m_dealt0 l G h0 x3 nw nk mhasKept nt mtaped nr mrowMany mroundOf mroundFrom mouts nm mfromHour mtoHour ns mfrom mto msort misFault mdeep mcoded mlines nl nc nF np ntr nb mbestCost nso nsi nit nsh nsf nss nrc 0 3 (nI jno) (fnw (32 + 6 * jno + 0)) (fnw (32 + 6 * jno + 2)) 0 fnrc (by omega) (by omega)) si_X12_372 [0, 4] [1, 2, 3] rfl rfl (by decide) rfl (by decide) (by decide) rfl rfl rfl rfl rfl (Nat.le_of_ble_eq_true rfl) ⟨Nat.le_of_ble_eq_true rfl, Nat.le_of_ble_eq_true rfl⟩ ⟨Nat.le_of_ble_eq_true rfl, Nat.le_of_ble_eq_true rfl⟩ dX12_deal_205 (fun r6234 u6235 H locs hr6234 hP hD hS => ?_)
          obtain ⟨jr16236, ip16237, gtrc6238⟩ := u6235
          try dsimp only at hr6234
          have hP : va_P G.1 vwCl [(nw, .inl (G.2.1, 1662, .inl fnw)), (nsh, .inl (G.2.1, 4, .inl fnsh)), (nsf, .inl (G.2.1, 4, .inl fnsf)), (h0, .inr (12, [.ref nw, .ref nk, .int mhasKept, .ref nt, .int mtaped, .ref nr, .int mrowMany, .int mroundOf, .int mroundFrom, .int mouts, .ref nm, .int mfromHour, .int mtoHour, .ref ns, .int mfrom, .int mto, .int msort, .int misFault, .int mdeep, .int mcoded, .int mlines, .ref nl, .ref nc, .ref nF, .ref np, .ref ntr, .ref nb, .int mbestCost, .ref nso, .ref nsi, .ref nit, .ref nsh, .ref nsf, .ref nss, .ref nrc, .int (nI jr16236), .int 3, .int (nI jno), .int (fnw (32 + 6 * jno + 0)), .int (fnw (32 + 6 * jno + 2)), .int ip16237])), (nrc, .inl (G.2.1, 30, .inl gtrc6238))] H := hP
          have hD : va_D A [(nw, .inl (G.2.1, 1662, .inl fnw)), (nsh, .inl (G.2.1, 4, .inl fnsh)), (nsf, .inl (G.2.1, 4, .inl fnsf)), (h0, .inr (12, [.ref nw, .ref nk, .int mhasKept, .ref nt, .int mtaped, .ref nr, .int mrowMany, .int mroundOf, .int mroundFrom, .int mouts, .ref nm, .int mfromHour, .int mtoHour, .ref ns, .int mfrom, .int mto, .int msort, .int misFault, .int mdeep, .int mcoded, .int mlines, .ref nl, .ref nc, .ref nF, .ref np, .ref ntr, .ref nb, .int mbestCost, .ref nso, .ref nsi, .ref nit, .ref nsh, .ref nsf, .ref nss, .ref nrc, .int (nI jr16236), .int 3, .int (nI jno), .int (fnw (32 + 6 * jno + 0)), .int (fnw (32 + 6 * jno + 2)), .int ip16237])), (nrc, .inl (G.2.1, 30, .inl gtrc6238))] := hD
          obtain ⟨hr6234, w6239⟩ := hr6234
          refine lv_istore (lv' := [(7, .int r6234), (6, .int 0), (5, .int 1), (4, .int 3), (0, .ref h0), (1, .int (nI jt)), (2, .int 0), (3, .int x3)]) hx hb dX12_deal_208 hl (by decide) rfl (fun ls hl => ?_)
          refine lv_aload_n hx hb dX12_deal_210 rfl (lv_at hl 4 rfl) ?_
          refine gf_X12_380 hC rfl hK hP 3 rfl rfl dX12_deal_211 ?_
          refine lv_if_eq (tgt := 222) hx hb dX12_deal_214 (by decide) (fun c_214_6240 => ?_) (fun c_214_6240 => ?_)
          · refine lv_iload hx hb dX12_deal_222 (lv_at hl 0 rfl) ?_
            exact RI (v := r6234) hC hP hD hS [3, 0, 1, 2, 4] (jr16236, 3, nI jno, fnw (32 + 6 * jno + 0), fnw (32 + 6 * jno + 2), ip16237, gtrc6238) rfl rfl (by decide) (⟨trivial, by omega⟩) rfl dX12_deal_224
          · refine lv_bipush (v := (-15)) hx hb dX12_deal_217 (by decide) ?_
            refine lv_goto (tgt := 224) hx hb dX12_deal_219 (by decide) ?_
            exact RI (v := (-15)) hC hP hD hS [3, 0, 1, 2, 4] (jr16236, 3, nI jno, fnw (32 + 6 * jno + 0), fnw (32 + 6 * jno + 2), ip16237, gtrc6238) rfl rfl (by decide) (⟨trivial, by omega⟩) rfl dX12_deal_224
        · refine lv_aload_n hx hb dX12_deal_202 rfl (lv_at hl 3 rfl) ?_
          refine lv_iload_n hx hb dX12_deal_203 rfl (lv_at hl 5 rfl) ?_
          refine lv_iload_n hx hb dX12_deal_204 rfl (lv_at hl 6 rfl) ?_
          refine iV (wr := [(nw, .inl (G.2.1, 1662, .inl fnw)), (nsh, .inl (G.2.1, 4, .inl fnsh)), (nsf, .inl (G.2.1, 4, .inl fnsf))]) hC hK hl hP hD hS hA (m_dealt1 l G h0 x3 nw nk mhasKept nt mtaped nr mrowMany mroundOf mroundFrom mouts nm mfromHour mtoHour ns mfrom mto msort misFault mdeep mcoded mlines nl nc nF np ntr nb mbestCost nso nsi nit nsh nsf nss nrc 0 3 (nI jno) (fnw (32 + 6 * jno + 0)) (fnw (32 + 6 * jno + 2)) 0 fnrc (by omega) (by omega)) si_X12_372 [0, 4] [1, 2, 3] rfl rfl (by decide) rfl (by decide) (by decide) rfl rfl rfl rfl rfl (Nat.le_of_ble_eq_true rfl) ⟨Nat.le_of_ble_eq_true rfl, Nat.le_of_ble_eq_true rfl⟩ ⟨Nat.le_of_ble_eq_true rfl, Nat.le_of_ble_eq_true rfl⟩ dX12_deal_205 (fun r6241 u6242 H locs hr6241 hP hD hS => ?_)
          obtain ⟨jr16243, ip16244, gtrc6245⟩ := u6242
          try dsimp only at hr6241
          have hP : va_P G.1 vwCl [(nw, .inl (G.2.1, 1662, .inl fnw)), (nsh, .inl (G.2.1, 4, .inl fnsh)), (nsf, .inl (G.2.1, 4, .inl fnsf)), (h0, .inr (12, [.ref nw, .ref nk, .int mhasKept, .ref nt, .int mtaped, .ref nr, .int mrowMany, .int mroundOf, .int mroundFrom, .int mouts, .ref nm, .int mfromHour, .int mtoHour, .ref ns, .int mfrom, .int mto, .int msort, .int misFault, .int mdeep, .int mcoded, .int mlines, .ref nl, .ref nc, .ref nF, .ref np, .ref ntr, .ref nb, .int mbestCost, .ref nso, .ref nsi, .ref nit, .ref nsh, .ref nsf, .ref nss, .ref nrc, .int (nI jr16243), .int 3, .int (nI jno), .int (fnw (32 + 6 * jno + 0)), .int (fnw (32 + 6 * jno + 2)), .int ip16244])), (nrc, .inl (G.2.1, 30, .inl gtrc6245))] H := hP
          have hD : va_D A [(nw, .inl (G.2.1, 1662, .inl fnw)), (nsh, .inl (G.2.1, 4, .inl fnsh)), (nsf, .inl (G.2.1, 4, .inl fnsf)), (h0, .inr (12, [.ref nw, .ref nk, .int mhasKept, .ref nt, .int mtaped, .ref nr, .int mrowMany, .int mroundOf, .int mroundFrom, .int mouts, .ref nm, .int mfromHour, .int mtoHour, .ref ns, .int mfrom, .int mto, .int msort, .int misFault, .int mdeep, .int mcoded, .int mlines, .ref nl, .ref nc, .ref nF, .ref np, .ref ntr, .ref nb, .int mbestCost, .ref nso, .ref nsi, .ref nit, .ref nsh, .ref nsf, .ref nss, .ref nrc, .int (nI jr16243), .int 3, .int (nI jno), .int (fnw (32 + 6 * jno + 0)), .int (fnw (32 + 6 * jno + 2)), .int ip16244])), (nrc, .inl (G.2.1, 30, .inl gtrc6245))] := hD
          obtain ⟨hr6241, w6246⟩ := hr6241
          refine lv_istore (lv' := [(7, .int r6241), (6, .int 0), (5, .int 1), (4, .int 3), (0, .ref h0), (1, .int (nI jt)), (2, .int 1), (3, .int x3)]) hx hb dX12_deal_208 hl (by decide) rfl (fun ls hl => ?_)
          refine lv_aload_n hx hb dX12_deal_210 rfl (lv_at hl 4 rfl) ?_
          refine gf_X12_380 hC rfl hK hP 3 rfl rfl dX12_deal_211 ?_
          refine lv_if_eq (tgt := 222) hx hb dX12_deal_214 (by decide) (fun c_214_6247 => ?_) (fun c_214_6247 => ?_)
          · refine lv_iload hx hb dX12_deal_222 (lv_at hl 0 rfl) ?_
            exact RI (v := r6241) hC hP hD hS [3, 0, 1, 2, 4] (jr16243, 3, nI jno, fnw (32 + 6 * jno + 0), fnw (32 + 6 * jno + 2), ip16244, gtrc6245) rfl rfl (by decide) (⟨trivial, by omega⟩) rfl dX12_deal_224
          · refine lv_bipush (v := (-15)) hx hb dX12_deal_217 (by decide) ?_
            refine lv_goto (tgt := 224) hx hb dX12_deal_219 (by decide) ?_
            exact RI (v := (-15)) hC hP hD hS [3, 0, 1, 2, 4] (jr16243, 3, nI jno, fnw (32 + 6 * jno + 0), fnw (32 + 6 * jno + 2), ip16244, gtrc6245) rfl rfl (by decide) (⟨trivial, by omega⟩) rfl dX12_deal_224
        · refine lv_aload_n hx hb dX12_deal_202 rfl (lv_at hl 3 rfl) ?_
          refine lv_iload_n hx hb dX12_deal_203 rfl (lv_at hl 5 rfl) ?_
          refine lv_iload_n hx hb dX12_deal_204 rfl (lv_at hl 6 rfl) ?_
          refine iV (wr := [(nw, .inl (G.2.1, 1662, .inl fnw)), (nsh, .inl (G.2.1, 4, .inl fnsh)), (nsf, .inl (G.2.1, 4, .inl fnsf))]) hC hK hl hP hD hS hA (m_dealt2 l G h0 x3 nw nk mhasKept nt mtaped nr mrowMany mroundOf mroundFrom mouts nm mfromHour mtoHour ns mfrom mto msort misFault mdeep mcoded mlines nl nc nF np ntr nb mbestCost nso nsi nit nsh nsf nss nrc 0 3 (nI jno) (fnw (32 + 6 * jno + 0)) (fnw (32 + 6 * jno + 2)) 0 fnrc (by omega) (by omega)) si_X12_372 [0, 4] [1, 2, 3] rfl rfl (by decide) rfl (by decide) (by decide) rfl rfl rfl rfl rfl (Nat.le_of_ble_eq_true rfl) ⟨Nat.le_of_ble_eq_true rfl, Nat.le_of_ble_eq_true rfl⟩ ⟨Nat.le_of_ble_eq_true rfl, Nat.le_of_ble_eq_true rfl⟩ dX12_deal_205 (fun r6248 u6249 H locs hr6248 hP hD hS => ?_)
          obtain ⟨jr16250, ip16251, gtrc6252⟩ := u6249
          try dsimp only at hr6248
          have hP : va_P G.1 vwCl [(nw, .inl (G.2.1, 1662, .inl fnw)), (nsh, .inl (G.2.1, 4, .inl fnsh)), (nsf, .inl (G.2.1, 4, .inl fnsf)), (h0, .inr (12, [.ref nw, .ref nk, .int mhasKept, .ref nt, .int mtaped, .ref nr, .int mrowMany, .int mroundOf, .int mroundFrom, .int mouts, .ref nm, .int mfromHour, .int mtoHour, .ref ns, .int mfrom, .int mto, .int msort, .int misFault, .int mdeep, .int mcoded, .int mlines, .ref nl, .ref nc, .ref nF, .ref np, .ref ntr, .ref nb, .int mbestCost, .ref nso, .ref nsi, .ref nit, .ref nsh, .ref nsf, .ref nss, .ref nrc, .int (nI jr16250), .int 3, .int (nI jno), .int (fnw (32 + 6 * jno + 0)), .int (fnw (32 + 6 * jno + 2)), .int ip16251])), (nrc, .inl (G.2.1, 30, .inl gtrc6252))] H := hP
          have hD : va_D A [(nw, .inl (G.2.1, 1662, .inl fnw)), (nsh, .inl (G.2.1, 4, .inl fnsh)), (nsf, .inl (G.2.1, 4, .inl fnsf)), (h0, .inr (12, [.ref nw, .ref nk, .int mhasKept, .ref nt, .int mtaped, .ref nr, .int mrowMany, .int mroundOf, .int mroundFrom, .int mouts, .ref nm, .int mfromHour, .int mtoHour, .ref ns, .int mfrom, .int mto, .int msort, .int misFault, .int mdeep, .int mcoded, .int mlines, .ref nl, .ref nc, .ref nF, .ref np, .ref ntr, .ref nb, .int mbestCost, .ref nso, .ref nsi, .ref nit, .ref nsh, .ref nsf, .ref nss, .ref nrc, .int (nI jr16250), .int 3, .int (nI jno), .int (fnw (32 + 6 * jno + 0)), .int (fnw (32 + 6 * jno + 2)), .int ip16251])), (nrc, .inl (G.2.1, 30, .inl gtrc6252))] := hD
          obtain ⟨hr6248, w6253⟩ := hr6248
          refine lv_istore (lv' := [(7, .int r6248), (6, .int 0), (5, .int 1), (4, .int 3), (0, .ref h0), (1, .int (nI jt)), (2, .int 2), (3, .int x3)]) hx hb dX12_deal_208 hl (by decide) rfl (fun ls hl => ?_)
          refine lv_aload_n hx hb dX12_deal_210 rfl (lv_at hl 4 rfl) ?_
          refine gf_X12_380 hC rfl hK hP 3 rfl rfl dX12_deal_211 ?_
          refine lv_if_eq (tgt := 222) hx hb dX12_deal_214 (by decide) (fun c_214_6254 => ?_) (fun c_214_6254 => ?_)
          · refine lv_iload hx hb dX12_deal_222 (lv_at hl 0 rfl) ?_
            exact RI (v := r6248) hC hP hD hS [3, 0, 1, 2, 4] (jr16250, 3, nI jno, fnw (32 + 6 * jno + 0), fnw (32 + 6 * jno + 2), ip16251, gtrc6252) rfl rfl (by decide) (⟨trivial, by omega⟩) rfl dX12_deal_224
          · refine lv_bipush (v := (-15)) hx hb dX12_deal_217 (by decide) ?_
            refine lv_goto (tgt := 224) hx hb dX12_deal_219 (by decide) ?_
            exact RI (v := (-15)) hC hP hD hS [3, 0, 1, 2, 4] (jr16250, 3, nI jno, fnw (32 + 6 * jno + 0), fnw (32 + 6 * jno + 2), ip16251, gtrc6252) rfl rfl (by decide) (⟨trivial, by omega⟩) rfl dX12_deal_224
        · refine lv_aload_n hx hb dX12_deal_202 rfl (lv_at hl 3 rfl) ?_
          refine lv_iload_n hx hb dX12_deal_203 rfl (lv_at hl 5 rfl) ?_
          refine lv_iload_n hx hb dX12_deal_204 rfl (lv_at hl 6 rfl) ?_
          refine iV (wr := [(nw, .inl (G.2.1, 1662, .inl fnw)), (nsh, .inl (G.2.1, 4, .inl fnsh)), (nsf, .inl (G.2.1, 4, .inl fnsf))]) hC hK hl hP hD hS hA (m_dealt3 l G h0 x3 nw nk mhasKept nt mtaped nr mrowMany mroundOf mroundFrom mouts nm mfromHour mtoHour ns mfrom mto msort misFault mdeep mcoded mlines nl nc nF np ntr nb mbestCost nso nsi nit nsh nsf nss nrc 0 3 (nI jno) (fnw (32 + 6 * jno + 0)) (fnw (32 + 6 * jno + 2)) 0 fnrc (by omega) (by omega)) si_X12_372 [0, 4] [1, 2, 3] rfl rfl (by decide) rfl (by decide) (by decide) rfl rfl rfl rfl rfl (Nat.le_of_ble_eq_true rfl) ⟨Nat.le_of_ble_eq_true rfl, Nat.le_of_ble_eq_true rfl⟩ ⟨Nat.le_of_ble_eq_true rfl, Nat.le_of_ble_eq_true rfl⟩ dX12_deal_205 (fun r6255 u6256 H locs hr6255 hP hD hS => ?_)
          obtain ⟨jr16257, ip16258, gtrc6259⟩ := u6256
          try dsimp only at hr6255
          have hP : va_P G.1 vwCl [(nw, .inl (G.2.1, 1662, .inl fnw)), (nsh, .inl (G.2.1, 4, .inl fnsh)), (nsf, .inl (G.2.1, 4, .inl fnsf)), (h0, .inr (12, [.ref nw, .ref nk, .int mhasKept, .ref nt, .int mtaped, .ref nr, .int mrowMany, .int mroundOf, .int mroundFrom, .int mouts, .ref nm, .int mfromHour, .int mtoHour, .ref ns, .int mfrom, .int mto, .int msort, .int misFault, .int mdeep, .int mcoded, .int mlines, .ref nl, .ref nc, .ref nF, .ref np, .ref ntr, .ref nb, .int mbestCost, .ref nso, .ref nsi, .ref nit, .ref nsh, .ref nsf, .ref nss, .ref nrc, .int (nI jr16257), .int 3, .int (nI jno), .int (fnw (32 + 6 * jno + 0)), .int (fnw (32 + 6 * jno + 2)), .int ip16258])), (nrc, .inl (G.2.1, 30, .inl gtrc6259))] H := hP
          have hD : va_D A [(nw, .inl (G.2.1, 1662, .inl fnw)), (nsh, .inl (G.2.1, 4, .inl fnsh)), (nsf, .inl (G.2.1, 4, .inl fnsf)), (h0, .inr (12, [.ref nw, .ref nk, .int mhasKept, .ref nt, .int mtaped, .ref nr, .int mrowMany, .int mroundOf, .int mroundFrom, .int mouts, .ref nm, .int mfromHour, .int mtoHour, .ref ns, .int mfrom, .int mto, .int msort, .int misFault, .int mdeep, .int mcoded, .int mlines, .ref nl, .ref nc, .ref nF, .ref np, .ref ntr, .ref nb, .int mbestCost, .ref nso, .ref nsi, .ref nit, .ref nsh, .ref nsf, .ref nss, .ref nrc, .int (nI jr16257), .int 3, .int (nI jno), .int (fnw (32 + 6 * jno + 0)), .int (fnw (32 + 6 * jno + 2)), .int ip16258])), (nrc, .inl (G.2.1, 30, .inl gtrc6259))] := hD
          obtain ⟨hr6255, w6260⟩ := hr6255
          refine lv_istore (lv' := [(7, .int r6255), (6, .int 0), (5, .int 1), (4, .int 3), (0, .ref h0), (1, .int (nI jt)), (2, .int 3), (3, .int x3)]) hx hb dX12_deal_208 hl (by decide) rfl (fun ls hl => ?_)
          refine lv_aload_n hx hb dX12_deal_210 rfl (lv_at hl 4 rfl) ?_
          refine gf_X12_380 hC rfl hK hP 3 rfl rfl dX12_deal_211 ?_
          refine lv_if_eq (tgt := 222) hx hb dX12_deal_214 (by decide) (fun c_214_6261 => ?_) (fun c_214_6261 => ?_)
          · refine lv_iload hx hb dX12_deal_222 (lv_at hl 0 rfl) ?_
            exact RI (v := r6255) hC hP hD hS [3, 0, 1, 2, 4] (jr16257, 3, nI jno, fnw (32 + 6 * jno + 0), fnw (32 + 6 * jno + 2), ip16258, gtrc6259) rfl rfl (by decide) (⟨trivial, by omega⟩) rfl dX12_deal_224
          · refine lv_bipush (v := (-15)) hx hb dX12_deal_217 (by decide) ?_
            refine lv_goto (tgt := 224) hx hb dX12_deal_219 (by decide) ?_
            exact RI (v := (-15)) hC hP hD hS [3, 0, 1, 2, 4] (jr16257, 3, nI jno, fnw (32 + 6 * jno + 0), fnw (32 + 6 * jno + 2), ip16258, gtrc6259) rfl rfl (by decide) (⟨trivial, by omega⟩) rfl dX12_deal_224
      · refine lv_istore (lv' := [(4, .int 4), (0, .ref h0), (1, .int (nI jt)), (2, .int x2), (3, .int x3)]) hx hb dX12_deal_28 hl (by decide) rfl (fun ls hl => ?_)
        refine lv_iload hx hb dX12_deal_30 (lv_at hl 0 rfl) ?_
        refine lv_if_ge (tgt := 37) hx hb dX12_deal_32 (by decide) (fun _ => ?_) (fun c9 => absurd (by decide) c9)
        refine lv_aload_n hx hb dX12_deal_37 rfl (lv_at hl 1 rfl) ?_
        refine lv_iload hx hb dX12_deal_38 (lv_at hl 0 rfl) ?_
        refine pf_X12_354 hC rfl hK hP hD hS 0 (ws' := [(h0, .inr (12, [.ref nw, .ref nk, .int mhasKept, .ref nt, .int mtaped, .ref nr, .int mrowMany, .int mroundOf, .int mroundFrom, .int mouts, .ref nm, .int mfromHour, .int mtoHour, .ref ns, .int mfrom, .int mto, .int msort, .int misFault, .int mdeep, .int mcoded, .int mlines, .ref nl, .ref nc, .ref nF, .ref np, .ref ntr, .ref nb, .int mbestCost, .ref nso, .ref nsi, .ref nit, .ref nsh, .ref nsf, .ref nss, .ref nrc, .int 0, .int 4, .int mnumber, .int mwhose, .int msize, .int misParted])), (nw, .inl (G.2.1, 1662, .inl fnw)), (nsh, .inl (G.2.1, 4, .inl fnsh)), (nsf, .inl (G.2.1, 4, .inl fnsf)), (nrc, .inl (G.2.1, 30, .inl fnrc))]) rfl (Nat.le_of_ble_eq_true rfl) rfl rfl rfl dX12_deal_40 (fun H locs hP hD hS => ?_)
        refine lv_aload_n hx hb dX12_deal_43 rfl (lv_at hl 1 rfl) ?_
        refine lv_aload_n hx hb dX12_deal_44 rfl (lv_at hl 1 rfl) ?_
        refine gf_X12_75 hC rfl hK hP 0 rfl rfl dX12_deal_45 ?_
        refine lv_iload_n hx hb dX12_deal_48 rfl (lv_at hl 2 rfl) ?_
        refine ald hC hK hP 3 rfl (vp_in_nI (by omega) (by omega)) (k := jt) (nI_clamp (by omega)) (v := fnsf jt) rfl dX12_deal_49 ?_
        refine lv_topi (fun x6262 ex6262 => ?_)
        obtain ⟨hko9, jno, hjno, ejno⟩ := a6156
        refine eqi (x1 := nI jno) (ex6262.trans ejno) ?_
        refine pf_X12_378 hC rfl hK hP hD hS 0 (ws' := [(h0, .inr (12, [.ref nw, .ref nk, .int mhasKept, .ref nt, .int mtaped, .ref nr, .int mrowMany, .int mroundOf, .int mroundFrom, .int mouts, .ref nm, .int mfromHour, .int mtoHour, .ref ns, .int mfrom, .int mto, .int msort, .int misFault, .int mdeep, .int mcoded, .int mlines, .ref nl, .ref nc, .ref nF, .ref np, .ref ntr, .ref nb, .int mbestCost, .ref nso, .ref nsi, .ref nit, .ref nsh, .ref nsf, .ref nss, .ref nrc, .int 0, .int 4, .int (nI jno), .int mwhose, .int msize, .int misParted])), (nw, .inl (G.2.1, 1662, .inl fnw)), (nsh, .inl (G.2.1, 4, .inl fnsh)), (nsf, .inl (G.2.1, 4, .inl fnsf)), (nrc, .inl (G.2.1, 30, .inl fnrc))]) rfl (Nat.le_of_ble_eq_true rfl) rfl rfl rfl dX12_deal_50 (fun H locs hP hD hS => ?_)
        refine lv_aload_n hx hb dX12_deal_53 rfl (lv_at hl 1 rfl) ?_
        refine gf_X12_72 hC rfl hK hP 0 rfl rfl dX12_deal_54 ?_
        refine lv_iload_n hx hb dX12_deal_57 rfl (lv_at hl 2 rfl) ?_
        refine ald hC hK hP 2 rfl (vp_in_nI (by omega) (by omega)) (k := jt) (nI_clamp (by omega)) (v := fnsh jt) rfl dX12_deal_58 ?_
        refine lv_topi (fun x6263 ex6263 => ?_)
        refine lv_iconst (v := 1) hx hb dX12_deal_59 (by decide) ?_
        refine lv_icmp_ne (tgt := 67) hx hb dX12_deal_60 (by decide) (fun _ => ?_) (fun c9 => absurd c9 (fun h9 => absurd (hko9.symm.trans ((ex6263.symm).trans h9)) (by decide)))
        refine lv_iconst (v := 0) hx hb dX12_deal_67 (by decide) ?_
        refine lv_istore (lv' := [(5, .int 0), (4, .int 4), (0, .ref h0), (1, .int (nI jt)), (2, .int x2), (3, .int x3)]) hx hb dX12_deal_68 hl (by decide) rfl (fun ls hl => ?_)
        refine lv_aload_n hx hb dX12_deal_70 rfl (lv_at hl 2 rfl) ?_
        refine gf_X12_72 hC rfl hK hP 0 rfl rfl dX12_deal_71 ?_
        refine lv_iload_n hx hb dX12_deal_74 rfl (lv_at hl 3 rfl) ?_
        refine ald hC hK hP 2 rfl (vp_in_nI (by omega) (by omega)) (k := jt) (nI_clamp (by omega)) (v := fnsh jt) rfl dX12_deal_75 ?_
        refine lv_topi (fun x6264 ex6264 => ?_)
        refine lv_iconst (v := 2) hx hb dX12_deal_76 (by decide) ?_
        refine lv_icmp_ne (tgt := 84) hx hb dX12_deal_77 (by decide) (fun c9 => absurd (ex6264.trans hko9) c9) (fun _ => ?_)
        refine lv_iconst (v := 1) hx hb dX12_deal_80 (by decide) ?_
        refine lv_goto (tgt := 85) hx hb dX12_deal_81 (by decide) ?_
        refine lv_istore (lv' := [(6, .int 1), (5, .int 0), (4, .int 4), (0, .ref h0), (1, .int (nI jt)), (2, .int x2), (3, .int x3)]) hx hb dX12_deal_85 hl (by decide) rfl (fun ls hl => ?_)
        refine lv_aload_n hx hb dX12_deal_87 rfl (lv_at hl 3 rfl) ?_
        refine lv_iload hx hb dX12_deal_88 (lv_at hl 1 rfl) ?_
        refine lv_if_eq (tgt := 105) hx hb dX12_deal_90 (by decide) (fun _ => ?_) (fun c9 => absurd (by decide) c9)
        refine lv_iload hx hb dX12_deal_105 (lv_at hl 0 rfl) ?_
        refine lv_if_eq (tgt := 122) hx hb dX12_deal_107 (by decide) (fun c9 => absurd c9 (by decide)) (fun _ => ?_)
        refine lv_aload_n hx hb dX12_deal_110 rfl (lv_at hl 3 rfl) ?_
        refine lv_aload_n hx hb dX12_deal_111 rfl (lv_at hl 3 rfl) ?_
        refine gf_X12_378 hC rfl hK hP 0 rfl rfl dX12_deal_112 ?_
        refine lv_iconst (v := 0) hx hb dX12_deal_115 (by decide) ?_
        refine pV hC hK hl hP hD (m_saying l G h0 jno 0 nw nk mhasKept nt mtaped nr mrowMany mroundOf mroundFrom mouts nm mfromHour mtoHour ns mfrom mto msort misFault mdeep mcoded mlines nl nc nF np ntr nb mbestCost nso nsi nit nsh nsf nss nrc 0 4 (nI jno) mwhose msize misParted fnw (by omega) (by omega)) si_X12_114 [0, 1] rfl rfl (by decide) rfl rfl rfl rfl rfl (Nat.le_of_ble_eq_true rfl) ⟨Nat.le_of_ble_eq_true rfl, Nat.le_of_ble_eq_true rfl⟩ ⟨by first | exact Nat.le_of_ble_eq_true rfl | exact Nat.zero_le _, by first | exact Nat.le_of_ble_eq_true rfl | exact Nat.zero_le _⟩ dX12_deal_116 (fun r6265 hr6265 => ?_)
        obtain rfl := hr6265
        refine lv_goto (tgt := 139) hx hb dX12_deal_119 (by decide) ?_
        refine pf_X12_375 hC rfl hK hP hD hS 0 (ws' := [(h0, .inr (12, [.ref nw, .ref nk, .int mhasKept, .ref nt, .int mtaped, .ref nr, .int mrowMany, .int mroundOf, .int mroundFrom, .int mouts, .ref nm, .int mfromHour, .int mtoHour, .ref ns, .int mfrom, .int mto, .int msort, .int misFault, .int mdeep, .int mcoded, .int mlines, .ref nl, .ref nc, .ref nF, .ref np, .ref ntr, .ref nb, .int mbestCost, .ref nso, .ref nsi, .ref nit, .ref nsh, .ref nsf, .ref nss, .ref nrc, .int 0, .int 4, .int (nI jno), .int (fnw (1424 + 8 * jno + 0)), .int msize, .int misParted])), (nw, .inl (G.2.1, 1662, .inl fnw)), (nsh, .inl (G.2.1, 4, .inl fnsh)), (nsf, .inl (G.2.1, 4, .inl fnsf)), (nrc, .inl (G.2.1, 30, .inl fnrc))]) rfl (Nat.le_of_ble_eq_true rfl) rfl rfl rfl dX12_deal_139 (fun H locs hP hD hS => ?_)
        refine lv_aload_n hx hb dX12_deal_142 rfl (lv_at hl 3 rfl) ?_
        refine lv_iload hx hb dX12_deal_143 (lv_at hl 1 rfl) ?_
        refine lv_if_eq (tgt := 160) hx hb dX12_deal_145 (by decide) (fun _ => ?_) (fun c9 => absurd (by decide) c9)
        refine lv_iload hx hb dX12_deal_160 (lv_at hl 0 rfl) ?_
        refine lv_if_eq (tgt := 177) hx hb dX12_deal_162 (by decide) (fun c9 => absurd c9 (by decide)) (fun _ => ?_)
        refine lv_aload_n hx hb dX12_deal_165 rfl (lv_at hl 3 rfl) ?_
        refine lv_aload_n hx hb dX12_deal_166 rfl (lv_at hl 3 rfl) ?_
        refine gf_X12_378 hC rfl hK hP 0 rfl rfl dX12_deal_167 ?_
        refine lv_iconst (v := 4) hx hb dX12_deal_170 (by decide) ?_
        refine pV hC hK hl hP hD (m_saying l G h0 jno 4 nw nk mhasKept nt mtaped nr mrowMany mroundOf mroundFrom mouts nm mfromHour mtoHour ns mfrom mto msort misFault mdeep mcoded mlines nl nc nF np ntr nb mbestCost nso nsi nit nsh nsf nss nrc 0 4 (nI jno) (fnw (1424 + 8 * jno + 0)) msize misParted fnw (by omega) (by omega)) si_X12_114 [0, 1] rfl rfl (by decide) rfl rfl rfl rfl rfl (Nat.le_of_ble_eq_true rfl) ⟨Nat.le_of_ble_eq_true rfl, Nat.le_of_ble_eq_true rfl⟩ ⟨by first | exact Nat.le_of_ble_eq_true rfl | exact Nat.zero_le _, by first | exact Nat.le_of_ble_eq_true rfl | exact Nat.zero_le _⟩ dX12_deal_171 (fun r6267 hr6267 => ?_)
        obtain rfl := hr6267
        refine lv_goto (tgt := 194) hx hb dX12_deal_174 (by decide) ?_
        refine pf_X12_369 hC rfl hK hP hD hS 0 (ws' := [(h0, .inr (12, [.ref nw, .ref nk, .int mhasKept, .ref nt, .int mtaped, .ref nr, .int mrowMany, .int mroundOf, .int mroundFrom, .int mouts, .ref nm, .int mfromHour, .int mtoHour, .ref ns, .int mfrom, .int mto, .int msort, .int misFault, .int mdeep, .int mcoded, .int mlines, .ref nl, .ref nc, .ref nF, .ref np, .ref ntr, .ref nb, .int mbestCost, .ref nso, .ref nsi, .ref nit, .ref nsh, .ref nsf, .ref nss, .ref nrc, .int 0, .int 4, .int (nI jno), .int (fnw (1424 + 8 * jno + 0)), .int (fnw (1424 + 8 * jno + 4)), .int misParted])), (nw, .inl (G.2.1, 1662, .inl fnw)), (nsh, .inl (G.2.1, 4, .inl fnsh)), (nsf, .inl (G.2.1, 4, .inl fnsf)), (nrc, .inl (G.2.1, 30, .inl fnrc))]) rfl (Nat.le_of_ble_eq_true rfl) rfl rfl rfl dX12_deal_194 (fun H locs hP hD hS => ?_)
        refine lv_aload_n hx hb dX12_deal_197 rfl (lv_at hl 3 rfl) ?_
        refine lv_iconst (v := 0) hx hb dX12_deal_198 (by decide) ?_
        refine pf_X12_380 hC rfl hK hP hD hS 0 (ws' := [(h0, .inr (12, [.ref nw, .ref nk, .int mhasKept, .ref nt, .int mtaped, .ref nr, .int mrowMany, .int mroundOf, .int mroundFrom, .int mouts, .ref nm, .int mfromHour, .int mtoHour, .ref ns, .int mfrom, .int mto, .int msort, .int misFault, .int mdeep, .int mcoded, .int mlines, .ref nl, .ref nc, .ref nF, .ref np, .ref ntr, .ref nb, .int mbestCost, .ref nso, .ref nsi, .ref nit, .ref nsh, .ref nsf, .ref nss, .ref nrc, .int 0, .int 4, .int (nI jno), .int (fnw (1424 + 8 * jno + 0)), .int (fnw (1424 + 8 * jno + 4)), .int 0])), (nw, .inl (G.2.1, 1662, .inl fnw)), (nsh, .inl (G.2.1, 4, .inl fnsh)), (nsf, .inl (G.2.1, 4, .inl fnsf)), (nrc, .inl (G.2.1, 30, .inl fnrc))]) rfl (Nat.le_of_ble_eq_true rfl) rfl (by decide +kernel) (by decide +kernel) dX12_deal_199 (fun H locs hP hD hS => ?_)
        obtain ⟨jdl, hjdl, rfl⟩ := Wi_nat (N := 3) (by decide) a6154
        rcases (show jdl = 0 ∨ jdl = 1 ∨ jdl = 2 ∨ jdl = 3 by omega) with rfl | rfl | rfl | rfl
        · refine lv_aload_n hx hb dX12_deal_202 rfl (lv_at hl 3 rfl) ?_
          refine lv_iload_n hx hb dX12_deal_203 rfl (lv_at hl 5 rfl) ?_
          refine lv_iload_n hx hb dX12_deal_204 rfl (lv_at hl 6 rfl) ?_
          refine iV (wr := [(nw, .inl (G.2.1, 1662, .inl fnw)), (nsh, .inl (G.2.1, 4, .inl fnsh)), (nsf, .inl (G.2.1, 4, .inl fnsf))]) hC hK hl hP hD hS hA (m_dealt0 l G h0 x3 nw nk mhasKept nt mtaped nr mrowMany mroundOf mroundFrom mouts nm mfromHour mtoHour ns mfrom mto msort misFault mdeep mcoded mlines nl nc nF np ntr nb mbestCost nso nsi nit nsh nsf nss nrc 0 4 (nI jno) (fnw (1424 + 8 * jno + 0)) (fnw (1424 + 8 * jno + 4)) 0 fnrc (by omega) (by omega)) si_X12_372 [0, 4] [1, 2, 3] rfl rfl (by decide) rfl (by decide) (by decide) rfl rfl rfl rfl rfl (Nat.le_of_ble_eq_true rfl) ⟨Nat.le_of_ble_eq_true rfl, Nat.le_of_ble_eq_true rfl⟩ ⟨Nat.le_of_ble_eq_true rfl, Nat.le_of_ble_eq_true rfl⟩ dX12_deal_205 (fun r6269 u6270 H locs hr6269 hP hD hS => ?_)
          obtain ⟨jr16271, ip16272, gtrc6273⟩ := u6270
          try dsimp only at hr6269
          have hP : va_P G.1 vwCl [(nw, .inl (G.2.1, 1662, .inl fnw)), (nsh, .inl (G.2.1, 4, .inl fnsh)), (nsf, .inl (G.2.1, 4, .inl fnsf)), (h0, .inr (12, [.ref nw, .ref nk, .int mhasKept, .ref nt, .int mtaped, .ref nr, .int mrowMany, .int mroundOf, .int mroundFrom, .int mouts, .ref nm, .int mfromHour, .int mtoHour, .ref ns, .int mfrom, .int mto, .int msort, .int misFault, .int mdeep, .int mcoded, .int mlines, .ref nl, .ref nc, .ref nF, .ref np, .ref ntr, .ref nb, .int mbestCost, .ref nso, .ref nsi, .ref nit, .ref nsh, .ref nsf, .ref nss, .ref nrc, .int (nI jr16271), .int 4, .int (nI jno), .int (fnw (1424 + 8 * jno + 0)), .int (fnw (1424 + 8 * jno + 4)), .int ip16272])), (nrc, .inl (G.2.1, 30, .inl gtrc6273))] H := hP
          have hD : va_D A [(nw, .inl (G.2.1, 1662, .inl fnw)), (nsh, .inl (G.2.1, 4, .inl fnsh)), (nsf, .inl (G.2.1, 4, .inl fnsf)), (h0, .inr (12, [.ref nw, .ref nk, .int mhasKept, .ref nt, .int mtaped, .ref nr, .int mrowMany, .int mroundOf, .int mroundFrom, .int mouts, .ref nm, .int mfromHour, .int mtoHour, .ref ns, .int mfrom, .int mto, .int msort, .int misFault, .int mdeep, .int mcoded, .int mlines, .ref nl, .ref nc, .ref nF, .ref np, .ref ntr, .ref nb, .int mbestCost, .ref nso, .ref nsi, .ref nit, .ref nsh, .ref nsf, .ref nss, .ref nrc, .int (nI jr16271), .int 4, .int (nI jno), .int (fnw (1424 + 8 * jno + 0)), .int (fnw (1424 + 8 * jno + 4)), .int ip16272])), (nrc, .inl (G.2.1, 30, .inl gtrc6273))] := hD
          obtain ⟨hr6269, w6274⟩ := hr6269
          refine lv_istore (lv' := [(7, .int r6269), (6, .int 1), (5, .int 0), (4, .int 4), (0, .ref h0), (1, .int (nI jt)), (2, .int 0), (3, .int x3)]) hx hb dX12_deal_208 hl (by decide) rfl (fun ls hl => ?_)
          refine lv_aload_n hx hb dX12_deal_210 rfl (lv_at hl 4 rfl) ?_
          refine gf_X12_380 hC rfl hK hP 3 rfl rfl dX12_deal_211 ?_
          refine lv_if_eq (tgt := 222) hx hb dX12_deal_214 (by decide) (fun c_214_6275 => ?_) (fun c_214_6275 => ?_)
          · refine lv_iload hx hb dX12_deal_222 (lv_at hl 0 rfl) ?_
            exact RI (v := r6269) hC hP hD hS [3, 0, 1, 2, 4] (jr16271, 4, nI jno, fnw (1424 + 8 * jno + 0), fnw (1424 + 8 * jno + 4), ip16272, gtrc6273) rfl rfl (by decide) (⟨trivial, by omega⟩) rfl dX12_deal_224
          · refine lv_bipush (v := (-15)) hx hb dX12_deal_217 (by decide) ?_
            refine lv_goto (tgt := 224) hx hb dX12_deal_219 (by decide) ?_
            exact RI (v := (-15)) hC hP hD hS [3, 0, 1, 2, 4] (jr16271, 4, nI jno, fnw (1424 + 8 * jno + 0), fnw (1424 + 8 * jno + 4), ip16272, gtrc6273) rfl rfl (by decide) (⟨trivial, by omega⟩) rfl dX12_deal_224
        · refine lv_aload_n hx hb dX12_deal_202 rfl (lv_at hl 3 rfl) ?_
          refine lv_iload_n hx hb dX12_deal_203 rfl (lv_at hl 5 rfl) ?_
          refine lv_iload_n hx hb dX12_deal_204 rfl (lv_at hl 6 rfl) ?_
          refine iV (wr := [(nw, .inl (G.2.1, 1662, .inl fnw)), (nsh, .inl (G.2.1, 4, .inl fnsh)), (nsf, .inl (G.2.1, 4, .inl fnsf))]) hC hK hl hP hD hS hA (m_dealt1 l G h0 x3 nw nk mhasKept nt mtaped nr mrowMany mroundOf mroundFrom mouts nm mfromHour mtoHour ns mfrom mto msort misFault mdeep mcoded mlines nl nc nF np ntr nb mbestCost nso nsi nit nsh nsf nss nrc 0 4 (nI jno) (fnw (1424 + 8 * jno + 0)) (fnw (1424 + 8 * jno + 4)) 0 fnrc (by omega) (by omega)) si_X12_372 [0, 4] [1, 2, 3] rfl rfl (by decide) rfl (by decide) (by decide) rfl rfl rfl rfl rfl (Nat.le_of_ble_eq_true rfl) ⟨Nat.le_of_ble_eq_true rfl, Nat.le_of_ble_eq_true rfl⟩ ⟨Nat.le_of_ble_eq_true rfl, Nat.le_of_ble_eq_true rfl⟩ dX12_deal_205 (fun r6276 u6277 H locs hr6276 hP hD hS => ?_)
          obtain ⟨jr16278, ip16279, gtrc6280⟩ := u6277
          try dsimp only at hr6276
          have hP : va_P G.1 vwCl [(nw, .inl (G.2.1, 1662, .inl fnw)), (nsh, .inl (G.2.1, 4, .inl fnsh)), (nsf, .inl (G.2.1, 4, .inl fnsf)), (h0, .inr (12, [.ref nw, .ref nk, .int mhasKept, .ref nt, .int mtaped, .ref nr, .int mrowMany, .int mroundOf, .int mroundFrom, .int mouts, .ref nm, .int mfromHour, .int mtoHour, .ref ns, .int mfrom, .int mto, .int msort, .int misFault, .int mdeep, .int mcoded, .int mlines, .ref nl, .ref nc, .ref nF, .ref np, .ref ntr, .ref nb, .int mbestCost, .ref nso, .ref nsi, .ref nit, .ref nsh, .ref nsf, .ref nss, .ref nrc, .int (nI jr16278), .int 4, .int (nI jno), .int (fnw (1424 + 8 * jno + 0)), .int (fnw (1424 + 8 * jno + 4)), .int ip16279])), (nrc, .inl (G.2.1, 30, .inl gtrc6280))] H := hP
          have hD : va_D A [(nw, .inl (G.2.1, 1662, .inl fnw)), (nsh, .inl (G.2.1, 4, .inl fnsh)), (nsf, .inl (G.2.1, 4, .inl fnsf)), (h0, .inr (12, [.ref nw, .ref nk, .int mhasKept, .ref nt, .int mtaped, .ref nr, .int mrowMany, .int mroundOf, .int mroundFrom, .int mouts, .ref nm, .int mfromHour, .int mtoHour, .ref ns, .int mfrom, .int mto, .int msort, .int misFault, .int mdeep, .int mcoded, .int mlines, .ref nl, .ref nc, .ref nF, .ref np, .ref ntr, .ref nb, .int mbestCost, .ref nso, .ref nsi, .ref nit, .ref nsh, .ref nsf, .ref nss, .ref nrc, .int (nI jr16278), .int 4, .int (nI jno), .int (fnw (1424 + 8 * jno + 0)), .int (fnw (1424 + 8 * jno + 4)), .int ip16279])), (nrc, .inl (G.2.1, 30, .inl gtrc6280))] := hD
          obtain ⟨hr6276, w6281⟩ := hr6276
          refine lv_istore (lv' := [(7, .int r6276), (6, .int 1), (5, .int 0), (4, .int 4), (0, .ref h0), (1, .int (nI jt)), (2, .int 1), (3, .int x3)]) hx hb dX12_deal_208 hl (by decide) rfl (fun ls hl => ?_)
          refine lv_aload_n hx hb dX12_deal_210 rfl (lv_at hl 4 rfl) ?_
          refine gf_X12_380 hC rfl hK hP 3 rfl rfl dX12_deal_211 ?_
          refine lv_if_eq (tgt := 222) hx hb dX12_deal_214 (by decide) (fun c_214_6282 => ?_) (fun c_214_6282 => ?_)
          · refine lv_iload hx hb dX12_deal_222 (lv_at hl 0 rfl) ?_
            exact RI (v := r6276) hC hP hD hS [3, 0, 1, 2, 4] (jr16278, 4, nI jno, fnw (1424 + 8 * jno + 0), fnw (1424 + 8 * jno + 4), ip16279, gtrc6280) rfl rfl (by decide) (⟨trivial, by omega⟩) rfl dX12_deal_224
          · refine lv_bipush (v := (-15)) hx hb dX12_deal_217 (by decide) ?_
            refine lv_goto (tgt := 224) hx hb dX12_deal_219 (by decide) ?_
            exact RI (v := (-15)) hC hP hD hS [3, 0, 1, 2, 4] (jr16278, 4, nI jno, fnw (1424 + 8 * jno + 0), fnw (1424 + 8 * jno + 4), ip16279, gtrc6280) rfl rfl (by decide) (⟨trivial, by omega⟩) rfl dX12_deal_224
        · refine lv_aload_n hx hb dX12_deal_202 rfl (lv_at hl 3 rfl) ?_
          refine lv_iload_n hx hb dX12_deal_203 rfl (lv_at hl 5 rfl) ?_
          refine lv_iload_n hx hb dX12_deal_204 rfl (lv_at hl 6 rfl) ?_
          refine iV (wr := [(nw, .inl (G.2.1, 1662, .inl fnw)), (nsh, .inl (G.2.1, 4, .inl fnsh)), (nsf, .inl (G.2.1, 4, .inl fnsf))]) hC hK hl hP hD hS hA (m_dealt2 l G h0 x3 nw nk mhasKept nt mtaped nr mrowMany mroundOf mroundFrom mouts nm mfromHour mtoHour ns mfrom mto msort misFault mdeep mcoded mlines nl nc nF np ntr nb mbestCost nso nsi nit nsh nsf nss nrc 0 4 (nI jno) (fnw (1424 + 8 * jno + 0)) (fnw (1424 + 8 * jno + 4)) 0 fnrc (by omega) (by omega)) si_X12_372 [0, 4] [1, 2, 3] rfl rfl (by decide) rfl (by decide) (by decide) rfl rfl rfl rfl rfl (Nat.le_of_ble_eq_true rfl) ⟨Nat.le_of_ble_eq_true rfl, Nat.le_of_ble_eq_true rfl⟩ ⟨Nat.le_of_ble_eq_true rfl, Nat.le_of_ble_eq_true rfl⟩ dX12_deal_205 (fun r6283 u6284 H locs hr6283 hP hD hS => ?_)
          obtain ⟨jr16285, ip16286, gtrc6287⟩ := u6284
          try dsimp only at hr6283
          have hP : va_P G.1 vwCl [(nw, .inl (G.2.1, 1662, .inl fnw)), (nsh, .inl (G.2.1, 4, .inl fnsh)), (nsf, .inl (G.2.1, 4, .inl fnsf)), (h0, .inr (12, [.ref nw, .ref nk, .int mhasKept, .ref nt, .int mtaped, .ref nr, .int mrowMany, .int mroundOf, .int mroundFrom, .int mouts, .ref nm, .int mfromHour, .int mtoHour, .ref ns, .int mfrom, .int mto, .int msort, .int misFault, .int mdeep, .int mcoded, .int mlines, .ref nl, .ref nc, .ref nF, .ref np, .ref ntr, .ref nb, .int mbestCost, .ref nso, .ref nsi, .ref nit, .ref nsh, .ref nsf, .ref nss, .ref nrc, .int (nI jr16285), .int 4, .int (nI jno), .int (fnw (1424 + 8 * jno + 0)), .int (fnw (1424 + 8 * jno + 4)), .int ip16286])), (nrc, .inl (G.2.1, 30, .inl gtrc6287))] H := hP
          have hD : va_D A [(nw, .inl (G.2.1, 1662, .inl fnw)), (nsh, .inl (G.2.1, 4, .inl fnsh)), (nsf, .inl (G.2.1, 4, .inl fnsf)), (h0, .inr (12, [.ref nw, .ref nk, .int mhasKept, .ref nt, .int mtaped, .ref nr, .int mrowMany, .int mroundOf, .int mroundFrom, .int mouts, .ref nm, .int mfromHour, .int mtoHour, .ref ns, .int mfrom, .int mto, .int msort, .int misFault, .int mdeep, .int mcoded, .int mlines, .ref nl, .ref nc, .ref nF, .ref np, .ref ntr, .ref nb, .int mbestCost, .ref nso, .ref nsi, .ref nit, .ref nsh, .ref nsf, .ref nss, .ref nrc, .int (nI jr16285), .int 4, .int (nI jno), .int (fnw (1424 + 8 * jno + 0)), .int (fnw (1424 + 8 * jno + 4)), .int ip16286])), (nrc, .inl (G.2.1, 30, .inl gtrc6287))] := hD
          obtain ⟨hr6283, w6288⟩ := hr6283
          refine lv_istore (lv' := [(7, .int r6283), (6, .int 1), (5, .int 0), (4, .int 4), (0, .ref h0), (1, .int (nI jt)), (2, .int 2), (3, .int x3)]) hx hb dX12_deal_208 hl (by decide) rfl (fun ls hl => ?_)
          refine lv_aload_n hx hb dX12_deal_210 rfl (lv_at hl 4 rfl) ?_
          refine gf_X12_380 hC rfl hK hP 3 rfl rfl dX12_deal_211 ?_
          refine lv_if_eq (tgt := 222) hx hb dX12_deal_214 (by decide) (fun c_214_6289 => ?_) (fun c_214_6289 => ?_)
          · refine lv_iload hx hb dX12_deal_222 (lv_at hl 0 rfl) ?_
            exact RI (v := r6283) hC hP hD hS [3, 0, 1, 2, 4] (jr16285, 4, nI jno, fnw (1424 + 8 * jno + 0), fnw (1424 + 8 * jno + 4), ip16286, gtrc6287) rfl rfl (by decide) (⟨trivial, by omega⟩) rfl dX12_deal_224
          · refine lv_bipush (v := (-15)) hx hb dX12_deal_217 (by decide) ?_
            refine lv_goto (tgt := 224) hx hb dX12_deal_219 (by decide) ?_
            exact RI (v := (-15)) hC hP hD hS [3, 0, 1, 2, 4] (jr16285, 4, nI jno, fnw (1424 + 8 * jno + 0), fnw (1424 + 8 * jno + 4), ip16286, gtrc6287) rfl rfl (by decide) (⟨trivial, by omega⟩) rfl dX12_deal_224
        · refine lv_aload_n hx hb dX12_deal_202 rfl (lv_at hl 3 rfl) ?_
          refine lv_iload_n hx hb dX12_deal_203 rfl (lv_at hl 5 rfl) ?_
          refine lv_iload_n hx hb dX12_deal_204 rfl (lv_at hl 6 rfl) ?_
          refine iV (wr := [(nw, .inl (G.2.1, 1662, .inl fnw)), (nsh, .inl (G.2.1, 4, .inl fnsh)), (nsf, .inl (G.2.1, 4, .inl fnsf))]) hC hK hl hP hD hS hA (m_dealt3 l G h0 x3 nw nk mhasKept nt mtaped nr mrowMany mroundOf mroundFrom mouts nm mfromHour mtoHour ns mfrom mto msort misFault mdeep mcoded mlines nl nc nF np ntr nb mbestCost nso nsi nit nsh nsf nss nrc 0 4 (nI jno) (fnw (1424 + 8 * jno + 0)) (fnw (1424 + 8 * jno + 4)) 0 fnrc (by omega) (by omega)) si_X12_372 [0, 4] [1, 2, 3] rfl rfl (by decide) rfl (by decide) (by decide) rfl rfl rfl rfl rfl (Nat.le_of_ble_eq_true rfl) ⟨Nat.le_of_ble_eq_true rfl, Nat.le_of_ble_eq_true rfl⟩ ⟨Nat.le_of_ble_eq_true rfl, Nat.le_of_ble_eq_true rfl⟩ dX12_deal_205 (fun r6290 u6291 H locs hr6290 hP hD hS => ?_)
          obtain ⟨jr16292, ip16293, gtrc6294⟩ := u6291
          try dsimp only at hr6290
          have hP : va_P G.1 vwCl [(nw, .inl (G.2.1, 1662, .inl fnw)), (nsh, .inl (G.2.1, 4, .inl fnsh)), (nsf, .inl (G.2.1, 4, .inl fnsf)), (h0, .inr (12, [.ref nw, .ref nk, .int mhasKept, .ref nt, .int mtaped, .ref nr, .int mrowMany, .int mroundOf, .int mroundFrom, .int mouts, .ref nm, .int mfromHour, .int mtoHour, .ref ns, .int mfrom, .int mto, .int msort, .int misFault, .int mdeep, .int mcoded, .int mlines, .ref nl, .ref nc, .ref nF, .ref np, .ref ntr, .ref nb, .int mbestCost, .ref nso, .ref nsi, .ref nit, .ref nsh, .ref nsf, .ref nss, .ref nrc, .int (nI jr16292), .int 4, .int (nI jno), .int (fnw (1424 + 8 * jno + 0)), .int (fnw (1424 + 8 * jno + 4)), .int ip16293])), (nrc, .inl (G.2.1, 30, .inl gtrc6294))] H := hP
          have hD : va_D A [(nw, .inl (G.2.1, 1662, .inl fnw)), (nsh, .inl (G.2.1, 4, .inl fnsh)), (nsf, .inl (G.2.1, 4, .inl fnsf)), (h0, .inr (12, [.ref nw, .ref nk, .int mhasKept, .ref nt, .int mtaped, .ref nr, .int mrowMany, .int mroundOf, .int mroundFrom, .int mouts, .ref nm, .int mfromHour, .int mtoHour, .ref ns, .int mfrom, .int mto, .int msort, .int misFault, .int mdeep, .int mcoded, .int mlines, .ref nl, .ref nc, .ref nF, .ref np, .ref ntr, .ref nb, .int mbestCost, .ref nso, .ref nsi, .ref nit, .ref nsh, .ref nsf, .ref nss, .ref nrc, .int (nI jr16292), .int 4, .int (nI jno), .int (fnw (1424 + 8 * jno + 0)), .int (fnw (1424 + 8 * jno + 4)), .int ip16293])), (nrc, .inl (G.2.1, 30, .inl gtrc6294))] := hD
          obtain ⟨hr6290, w6295⟩ := hr6290
          refine lv_istore (lv' := [(7, .int r6290), (6, .int 1), (5, .int 0), (4, .int 4), (0, .ref h0), (1, .int (nI jt)), (2, .int 3), (3, .int x3)]) hx hb dX12_deal_208 hl (by decide) rfl (fun ls hl => ?_)
          refine lv_aload_n hx hb dX12_deal_210 rfl (lv_at hl 4 rfl) ?_
          refine gf_X12_380 hC rfl hK hP 3 rfl rfl dX12_deal_211 ?_
          refine lv_if_eq (tgt := 222) hx hb dX12_deal_214 (by decide) (fun c_214_6296 => ?_) (fun c_214_6296 => ?_)
          · refine lv_iload hx hb dX12_deal_222 (lv_at hl 0 rfl) ?_
            exact RI (v := r6290) hC hP hD hS [3, 0, 1, 2, 4] (jr16292, 4, nI jno, fnw (1424 + 8 * jno + 0), fnw (1424 + 8 * jno + 4), ip16293, gtrc6294) rfl rfl (by decide) (⟨trivial, by omega⟩) rfl dX12_deal_224
          · refine lv_bipush (v := (-15)) hx hb dX12_deal_217 (by decide) ?_
            refine lv_goto (tgt := 224) hx hb dX12_deal_219 (by decide) ?_
            exact RI (v := (-15)) hC hP hD hS [3, 0, 1, 2, 4] (jr16292, 4, nI jno, fnw (1424 + 8 * jno + 0), fnw (1424 + 8 * jno + 4), ip16293, gtrc6294) rfl rfl (by decide) (⟨trivial, by omega⟩) rfl dX12_deal_224
      · refine lv_istore (lv' := [(4, .int 5), (0, .ref h0), (1, .int (nI jt)), (2, .int x2), (3, .int x3)]) hx hb dX12_deal_28 hl (by decide) rfl (fun ls hl => ?_)
        refine lv_iload hx hb dX12_deal_30 (lv_at hl 0 rfl) ?_
        refine lv_if_ge (tgt := 37) hx hb dX12_deal_32 (by decide) (fun _ => ?_) (fun c9 => absurd (by decide) c9)
        refine lv_aload_n hx hb dX12_deal_37 rfl (lv_at hl 1 rfl) ?_
        refine lv_iload hx hb dX12_deal_38 (lv_at hl 0 rfl) ?_
        refine pf_X12_354 hC rfl hK hP hD hS 0 (ws' := [(h0, .inr (12, [.ref nw, .ref nk, .int mhasKept, .ref nt, .int mtaped, .ref nr, .int mrowMany, .int mroundOf, .int mroundFrom, .int mouts, .ref nm, .int mfromHour, .int mtoHour, .ref ns, .int mfrom, .int mto, .int msort, .int misFault, .int mdeep, .int mcoded, .int mlines, .ref nl, .ref nc, .ref nF, .ref np, .ref ntr, .ref nb, .int mbestCost, .ref nso, .ref nsi, .ref nit, .ref nsh, .ref nsf, .ref nss, .ref nrc, .int 0, .int 5, .int mnumber, .int mwhose, .int msize, .int misParted])), (nw, .inl (G.2.1, 1662, .inl fnw)), (nsh, .inl (G.2.1, 4, .inl fnsh)), (nsf, .inl (G.2.1, 4, .inl fnsf)), (nrc, .inl (G.2.1, 30, .inl fnrc))]) rfl (Nat.le_of_ble_eq_true rfl) rfl rfl rfl dX12_deal_40 (fun H locs hP hD hS => ?_)
        refine lv_aload_n hx hb dX12_deal_43 rfl (lv_at hl 1 rfl) ?_
        refine lv_aload_n hx hb dX12_deal_44 rfl (lv_at hl 1 rfl) ?_
        refine gf_X12_75 hC rfl hK hP 0 rfl rfl dX12_deal_45 ?_
        refine lv_iload_n hx hb dX12_deal_48 rfl (lv_at hl 2 rfl) ?_
        refine ald hC hK hP 3 rfl (vp_in_nI (by omega) (by omega)) (k := jt) (nI_clamp (by omega)) (v := fnsf jt) rfl dX12_deal_49 ?_
        refine lv_topi (fun x6297 ex6297 => ?_)
        obtain ⟨hko9, jno, hjno, ejno⟩ := a6156
        refine eqi (x1 := nI jno) (ex6297.trans ejno) ?_
        refine pf_X12_378 hC rfl hK hP hD hS 0 (ws' := [(h0, .inr (12, [.ref nw, .ref nk, .int mhasKept, .ref nt, .int mtaped, .ref nr, .int mrowMany, .int mroundOf, .int mroundFrom, .int mouts, .ref nm, .int mfromHour, .int mtoHour, .ref ns, .int mfrom, .int mto, .int msort, .int misFault, .int mdeep, .int mcoded, .int mlines, .ref nl, .ref nc, .ref nF, .ref np, .ref ntr, .ref nb, .int mbestCost, .ref nso, .ref nsi, .ref nit, .ref nsh, .ref nsf, .ref nss, .ref nrc, .int 0, .int 5, .int (nI jno), .int mwhose, .int msize, .int misParted])), (nw, .inl (G.2.1, 1662, .inl fnw)), (nsh, .inl (G.2.1, 4, .inl fnsh)), (nsf, .inl (G.2.1, 4, .inl fnsf)), (nrc, .inl (G.2.1, 30, .inl fnrc))]) rfl (Nat.le_of_ble_eq_true rfl) rfl rfl rfl dX12_deal_50 (fun H locs hP hD hS => ?_)
        refine lv_aload_n hx hb dX12_deal_53 rfl (lv_at hl 1 rfl) ?_
        refine gf_X12_72 hC rfl hK hP 0 rfl rfl dX12_deal_54 ?_
        refine lv_iload_n hx hb dX12_deal_57 rfl (lv_at hl 2 rfl) ?_
        refine ald hC hK hP 2 rfl (vp_in_nI (by omega) (by omega)) (k := jt) (nI_clamp (by omega)) (v := fnsh jt) rfl dX12_deal_58 ?_
        refine lv_topi (fun x6298 ex6298 => ?_)
        refine lv_iconst (v := 1) hx hb dX12_deal_59 (by decide) ?_
        refine lv_icmp_ne (tgt := 67) hx hb dX12_deal_60 (by decide) (fun _ => ?_) (fun c9 => absurd c9 (fun h9 => absurd (hko9.symm.trans ((ex6298.symm).trans h9)) (by decide)))
        refine lv_iconst (v := 0) hx hb dX12_deal_67 (by decide) ?_
        refine lv_istore (lv' := [(5, .int 0), (4, .int 5), (0, .ref h0), (1, .int (nI jt)), (2, .int x2), (3, .int x3)]) hx hb dX12_deal_68 hl (by decide) rfl (fun ls hl => ?_)
        refine lv_aload_n hx hb dX12_deal_70 rfl (lv_at hl 2 rfl) ?_
        refine gf_X12_72 hC rfl hK hP 0 rfl rfl dX12_deal_71 ?_
        refine lv_iload_n hx hb dX12_deal_74 rfl (lv_at hl 3 rfl) ?_
        refine ald hC hK hP 2 rfl (vp_in_nI (by omega) (by omega)) (k := jt) (nI_clamp (by omega)) (v := fnsh jt) rfl dX12_deal_75 ?_
        refine lv_topi (fun x6299 ex6299 => ?_)
        refine lv_iconst (v := 2) hx hb dX12_deal_76 (by decide) ?_
        refine lv_icmp_ne (tgt := 84) hx hb dX12_deal_77 (by decide) (fun c9 => absurd (ex6299.trans hko9) c9) (fun _ => ?_)
        refine lv_iconst (v := 1) hx hb dX12_deal_80 (by decide) ?_
        refine lv_goto (tgt := 85) hx hb dX12_deal_81 (by decide) ?_
        refine lv_istore (lv' := [(6, .int 1), (5, .int 0), (4, .int 5), (0, .ref h0), (1, .int (nI jt)), (2, .int x2), (3, .int x3)]) hx hb dX12_deal_85 hl (by decide) rfl (fun ls hl => ?_)
        refine lv_aload_n hx hb dX12_deal_87 rfl (lv_at hl 3 rfl) ?_
        refine lv_iload hx hb dX12_deal_88 (lv_at hl 1 rfl) ?_
        refine lv_if_eq (tgt := 105) hx hb dX12_deal_90 (by decide) (fun _ => ?_) (fun c9 => absurd (by decide) c9)
        refine lv_iload hx hb dX12_deal_105 (lv_at hl 0 rfl) ?_
        refine lv_if_eq (tgt := 122) hx hb dX12_deal_107 (by decide) (fun c9 => absurd c9 (by decide)) (fun _ => ?_)
        refine lv_aload_n hx hb dX12_deal_110 rfl (lv_at hl 3 rfl) ?_
        refine lv_aload_n hx hb dX12_deal_111 rfl (lv_at hl 3 rfl) ?_
        refine gf_X12_378 hC rfl hK hP 0 rfl rfl dX12_deal_112 ?_
        refine lv_iconst (v := 0) hx hb dX12_deal_115 (by decide) ?_
        refine pV hC hK hl hP hD (m_saying l G h0 jno 0 nw nk mhasKept nt mtaped nr mrowMany mroundOf mroundFrom mouts nm mfromHour mtoHour ns mfrom mto msort misFault mdeep mcoded mlines nl nc nF np ntr nb mbestCost nso nsi nit nsh nsf nss nrc 0 5 (nI jno) mwhose msize misParted fnw (by omega) (by omega)) si_X12_114 [0, 1] rfl rfl (by decide) rfl rfl rfl rfl rfl (Nat.le_of_ble_eq_true rfl) ⟨Nat.le_of_ble_eq_true rfl, Nat.le_of_ble_eq_true rfl⟩ ⟨by first | exact Nat.le_of_ble_eq_true rfl | exact Nat.zero_le _, by first | exact Nat.le_of_ble_eq_true rfl | exact Nat.zero_le _⟩ dX12_deal_116 (fun r6300 hr6300 => ?_)
        obtain rfl := hr6300
        refine lv_goto (tgt := 139) hx hb dX12_deal_119 (by decide) ?_
        refine pf_X12_375 hC rfl hK hP hD hS 0 (ws' := [(h0, .inr (12, [.ref nw, .ref nk, .int mhasKept, .ref nt, .int mtaped, .ref nr, .int mrowMany, .int mroundOf, .int mroundFrom, .int mouts, .ref nm, .int mfromHour, .int mtoHour, .ref ns, .int mfrom, .int mto, .int msort, .int misFault, .int mdeep, .int mcoded, .int mlines, .ref nl, .ref nc, .ref nF, .ref np, .ref ntr, .ref nb, .int mbestCost, .ref nso, .ref nsi, .ref nit, .ref nsh, .ref nsf, .ref nss, .ref nrc, .int 0, .int 5, .int (nI jno), .int (fnw (1424 + 8 * jno + 0)), .int msize, .int misParted])), (nw, .inl (G.2.1, 1662, .inl fnw)), (nsh, .inl (G.2.1, 4, .inl fnsh)), (nsf, .inl (G.2.1, 4, .inl fnsf)), (nrc, .inl (G.2.1, 30, .inl fnrc))]) rfl (Nat.le_of_ble_eq_true rfl) rfl rfl rfl dX12_deal_139 (fun H locs hP hD hS => ?_)
        refine lv_aload_n hx hb dX12_deal_142 rfl (lv_at hl 3 rfl) ?_
        refine lv_iload hx hb dX12_deal_143 (lv_at hl 1 rfl) ?_
        refine lv_if_eq (tgt := 160) hx hb dX12_deal_145 (by decide) (fun _ => ?_) (fun c9 => absurd (by decide) c9)
        refine lv_iload hx hb dX12_deal_160 (lv_at hl 0 rfl) ?_
        refine lv_if_eq (tgt := 177) hx hb dX12_deal_162 (by decide) (fun c9 => absurd c9 (by decide)) (fun _ => ?_)
        refine lv_aload_n hx hb dX12_deal_165 rfl (lv_at hl 3 rfl) ?_
        refine lv_aload_n hx hb dX12_deal_166 rfl (lv_at hl 3 rfl) ?_
        refine gf_X12_378 hC rfl hK hP 0 rfl rfl dX12_deal_167 ?_
        refine lv_iconst (v := 4) hx hb dX12_deal_170 (by decide) ?_
        refine pV hC hK hl hP hD (m_saying l G h0 jno 4 nw nk mhasKept nt mtaped nr mrowMany mroundOf mroundFrom mouts nm mfromHour mtoHour ns mfrom mto msort misFault mdeep mcoded mlines nl nc nF np ntr nb mbestCost nso nsi nit nsh nsf nss nrc 0 5 (nI jno) (fnw (1424 + 8 * jno + 0)) msize misParted fnw (by omega) (by omega)) si_X12_114 [0, 1] rfl rfl (by decide) rfl rfl rfl rfl rfl (Nat.le_of_ble_eq_true rfl) ⟨Nat.le_of_ble_eq_true rfl, Nat.le_of_ble_eq_true rfl⟩ ⟨by first | exact Nat.le_of_ble_eq_true rfl | exact Nat.zero_le _, by first | exact Nat.le_of_ble_eq_true rfl | exact Nat.zero_le _⟩ dX12_deal_171 (fun r6302 hr6302 => ?_)
        obtain rfl := hr6302
        refine lv_goto (tgt := 194) hx hb dX12_deal_174 (by decide) ?_
        refine pf_X12_369 hC rfl hK hP hD hS 0 (ws' := [(h0, .inr (12, [.ref nw, .ref nk, .int mhasKept, .ref nt, .int mtaped, .ref nr, .int mrowMany, .int mroundOf, .int mroundFrom, .int mouts, .ref nm, .int mfromHour, .int mtoHour, .ref ns, .int mfrom, .int mto, .int msort, .int misFault, .int mdeep, .int mcoded, .int mlines, .ref nl, .ref nc, .ref nF, .ref np, .ref ntr, .ref nb, .int mbestCost, .ref nso, .ref nsi, .ref nit, .ref nsh, .ref nsf, .ref nss, .ref nrc, .int 0, .int 5, .int (nI jno), .int (fnw (1424 + 8 * jno + 0)), .int (fnw (1424 + 8 * jno + 4)), .int misParted])), (nw, .inl (G.2.1, 1662, .inl fnw)), (nsh, .inl (G.2.1, 4, .inl fnsh)), (nsf, .inl (G.2.1, 4, .inl fnsf)), (nrc, .inl (G.2.1, 30, .inl fnrc))]) rfl (Nat.le_of_ble_eq_true rfl) rfl rfl rfl dX12_deal_194 (fun H locs hP hD hS => ?_)
        refine lv_aload_n hx hb dX12_deal_197 rfl (lv_at hl 3 rfl) ?_
        refine lv_iconst (v := 0) hx hb dX12_deal_198 (by decide) ?_
        refine pf_X12_380 hC rfl hK hP hD hS 0 (ws' := [(h0, .inr (12, [.ref nw, .ref nk, .int mhasKept, .ref nt, .int mtaped, .ref nr, .int mrowMany, .int mroundOf, .int mroundFrom, .int mouts, .ref nm, .int mfromHour, .int mtoHour, .ref ns, .int mfrom, .int mto, .int msort, .int misFault, .int mdeep, .int mcoded, .int mlines, .ref nl, .ref nc, .ref nF, .ref np, .ref ntr, .ref nb, .int mbestCost, .ref nso, .ref nsi, .ref nit, .ref nsh, .ref nsf, .ref nss, .ref nrc, .int 0, .int 5, .int (nI jno), .int (fnw (1424 + 8 * jno + 0)), .int (fnw (1424 + 8 * jno + 4)), .int 0])), (nw, .inl (G.2.1, 1662, .inl fnw)), (nsh, .inl (G.2.1, 4, .inl fnsh)), (nsf, .inl (G.2.1, 4, .inl fnsf)), (nrc, .inl (G.2.1, 30, .inl fnrc))]) rfl (Nat.le_of_ble_eq_true rfl) rfl (by decide +kernel) (by decide +kernel) dX12_deal_199 (fun H locs hP hD hS => ?_)
        obtain ⟨jdl, hjdl, rfl⟩ := Wi_nat (N := 3) (by decide) a6154
        rcases (show jdl = 0 ∨ jdl = 1 ∨ jdl = 2 ∨ jdl = 3 by omega) with rfl | rfl | rfl | rfl
        · refine lv_aload_n hx hb dX12_deal_202 rfl (lv_at hl 3 rfl) ?_
          refine lv_iload_n hx hb dX12_deal_203 rfl (lv_at hl 5 rfl) ?_
          refine lv_iload_n hx hb dX12_deal_204 rfl (lv_at hl 6 rfl) ?_
          refine iV (wr := [(nw, .inl (G.2.1, 1662, .inl fnw)), (nsh, .inl (G.2.1, 4, .inl fnsh)), (nsf, .inl (G.2.1, 4, .inl fnsf))]) hC hK hl hP hD hS hA (m_dealt0 l G h0 x3 nw nk mhasKept nt mtaped nr mrowMany mroundOf mroundFrom mouts nm mfromHour mtoHour ns mfrom mto msort misFault mdeep mcoded mlines nl nc nF np ntr nb mbestCost nso nsi nit nsh nsf nss nrc 0 5 (nI jno) (fnw (1424 + 8 * jno + 0)) (fnw (1424 + 8 * jno + 4)) 0 fnrc (by omega) (by omega)) si_X12_372 [0, 4] [1, 2, 3] rfl rfl (by decide) rfl (by decide) (by decide) rfl rfl rfl rfl rfl (Nat.le_of_ble_eq_true rfl) ⟨Nat.le_of_ble_eq_true rfl, Nat.le_of_ble_eq_true rfl⟩ ⟨Nat.le_of_ble_eq_true rfl, Nat.le_of_ble_eq_true rfl⟩ dX12_deal_205 (fun r6304 u6305 H locs hr6304 hP hD hS => ?_)
          obtain ⟨jr16306, ip16307, gtrc6308⟩ := u6305
          try dsimp only at hr6304
          have hP : va_P G.1 vwCl [(nw, .inl (G.2.1, 1662, .inl fnw)), (nsh, .inl (G.2.1, 4, .inl fnsh)), (nsf, .inl (G.2.1, 4, .inl fnsf)), (h0, .inr (12, [.ref nw, .ref nk, .int mhasKept, .ref nt, .int mtaped, .ref nr, .int mrowMany, .int mroundOf, .int mroundFrom, .int mouts, .ref nm, .int mfromHour, .int mtoHour, .ref ns, .int mfrom, .int mto, .int msort, .int misFault, .int mdeep, .int mcoded, .int mlines, .ref nl, .ref nc, .ref nF, .ref np, .ref ntr, .ref nb, .int mbestCost, .ref nso, .ref nsi, .ref nit, .ref nsh, .ref nsf, .ref nss, .ref nrc, .int (nI jr16306), .int 5, .int (nI jno), .int (fnw (1424 + 8 * jno + 0)), .int (fnw (1424 + 8 * jno + 4)), .int ip16307])), (nrc, .inl (G.2.1, 30, .inl gtrc6308))] H := hP
          have hD : va_D A [(nw, .inl (G.2.1, 1662, .inl fnw)), (nsh, .inl (G.2.1, 4, .inl fnsh)), (nsf, .inl (G.2.1, 4, .inl fnsf)), (h0, .inr (12, [.ref nw, .ref nk, .int mhasKept, .ref nt, .int mtaped, .ref nr, .int mrowMany, .int mroundOf, .int mroundFrom, .int mouts, .ref nm, .int mfromHour, .int mtoHour, .ref ns, .int mfrom, .int mto, .int msort, .int misFault, .int mdeep, .int mcoded, .int mlines, .ref nl, .ref nc, .ref nF, .ref np, .ref ntr, .ref nb, .int mbestCost, .ref nso, .ref nsi, .ref nit, .ref nsh, .ref nsf, .ref nss, .ref nrc, .int (nI jr16306), .int 5, .int (nI jno), .int (fnw (1424 + 8 * jno + 0)), .int (fnw (1424 + 8 * jno + 4)), .int ip16307])), (nrc, .inl (G.2.1, 30, .inl gtrc6308))] := hD
          obtain ⟨hr6304, w6309⟩ := hr6304
          refine lv_istore (lv' := [(7, .int r6304), (6, .int 1), (5, .int 0), (4, .int 5), (0, .ref h0), (1, .int (nI jt)), (2, .int 0), (3, .int x3)]) hx hb dX12_deal_208 hl (by decide) rfl (fun ls hl => ?_)
          refine lv_aload_n hx hb dX12_deal_210 rfl (lv_at hl 4 rfl) ?_
          refine gf_X12_380 hC rfl hK hP 3 rfl rfl dX12_deal_211 ?_
          refine lv_if_eq (tgt := 222) hx hb dX12_deal_214 (by decide) (fun c_214_6310 => ?_) (fun c_214_6310 => ?_)
          · refine lv_iload hx hb dX12_deal_222 (lv_at hl 0 rfl) ?_
            exact RI (v := r6304) hC hP hD hS [3, 0, 1, 2, 4] (jr16306, 5, nI jno, fnw (1424 + 8 * jno + 0), fnw (1424 + 8 * jno + 4), ip16307, gtrc6308) rfl rfl (by decide) (⟨trivial, by omega⟩) rfl dX12_deal_224
          · refine lv_bipush (v := (-15)) hx hb dX12_deal_217 (by decide) ?_
            refine lv_goto (tgt := 224) hx hb dX12_deal_219 (by decide) ?_
            exact RI (v := (-15)) hC hP hD hS [3, 0, 1, 2, 4] (jr16306, 5, nI jno, fnw (1424 + 8 * jno + 0), fnw (1424 + 8 * jno + 4), ip16307, gtrc6308) rfl rfl (by decide) (⟨trivial, by omega⟩) rfl dX12_deal_224
        · refine lv_aload_n hx hb dX12_deal_202 rfl (lv_at hl 3 rfl) ?_
          refine lv_iload_n hx hb dX12_deal_203 rfl (lv_at hl 5 rfl) ?_
          refine lv_iload_n hx hb dX12_deal_204 rfl (lv_at hl 6 rfl) ?_
          refine iV (wr := [(nw, .inl (G.2.1, 1662, .inl fnw)), (nsh, .inl (G.2.1, 4, .inl fnsh)), (nsf, .inl (G.2.1, 4, .inl fnsf))]) hC hK hl hP hD hS hA (m_dealt1 l G h0 x3 nw nk mhasKept nt mtaped nr mrowMany mroundOf mroundFrom mouts nm mfromHour mtoHour ns mfrom mto msort misFault mdeep mcoded mlines nl nc nF np ntr nb mbestCost nso nsi nit nsh nsf nss nrc 0 5 (nI jno) (fnw (1424 + 8 * jno + 0)) (fnw (1424 + 8 * jno + 4)) 0 fnrc (by omega) (by omega)) si_X12_372 [0, 4] [1, 2, 3] rfl rfl (by decide) rfl (by decide) (by decide) rfl rfl rfl rfl rfl (Nat.le_of_ble_eq_true rfl) ⟨Nat.le_of_ble_eq_true rfl, Nat.le_of_ble_eq_true rfl⟩ ⟨Nat.le_of_ble_eq_true rfl, Nat.le_of_ble_eq_true rfl⟩ dX12_deal_205 (fun r6311 u6312 H locs hr6311 hP hD hS => ?_)
          obtain ⟨jr16313, ip16314, gtrc6315⟩ := u6312
          try dsimp only at hr6311
          have hP : va_P G.1 vwCl [(nw, .inl (G.2.1, 1662, .inl fnw)), (nsh, .inl (G.2.1, 4, .inl fnsh)), (nsf, .inl (G.2.1, 4, .inl fnsf)), (h0, .inr (12, [.ref nw, .ref nk, .int mhasKept, .ref nt, .int mtaped, .ref nr, .int mrowMany, .int mroundOf, .int mroundFrom, .int mouts, .ref nm, .int mfromHour, .int mtoHour, .ref ns, .int mfrom, .int mto, .int msort, .int misFault, .int mdeep, .int mcoded, .int mlines, .ref nl, .ref nc, .ref nF, .ref np, .ref ntr, .ref nb, .int mbestCost, .ref nso, .ref nsi, .ref nit, .ref nsh, .ref nsf, .ref nss, .ref nrc, .int (nI jr16313), .int 5, .int (nI jno), .int (fnw (1424 + 8 * jno + 0)), .int (fnw (1424 + 8 * jno + 4)), .int ip16314])), (nrc, .inl (G.2.1, 30, .inl gtrc6315))] H := hP
          have hD : va_D A [(nw, .inl (G.2.1, 1662, .inl fnw)), (nsh, .inl (G.2.1, 4, .inl fnsh)), (nsf, .inl (G.2.1, 4, .inl fnsf)), (h0, .inr (12, [.ref nw, .ref nk, .int mhasKept, .ref nt, .int mtaped, .ref nr, .int mrowMany, .int mroundOf, .int mroundFrom, .int mouts, .ref nm, .int mfromHour, .int mtoHour, .ref ns, .int mfrom, .int mto, .int msort, .int misFault, .int mdeep, .int mcoded, .int mlines, .ref nl, .ref nc, .ref nF, .ref np, .ref ntr, .ref nb, .int mbestCost, .ref nso, .ref nsi, .ref nit, .ref nsh, .ref nsf, .ref nss, .ref nrc, .int (nI jr16313), .int 5, .int (nI jno), .int (fnw (1424 + 8 * jno + 0)), .int (fnw (1424 + 8 * jno + 4)), .int ip16314])), (nrc, .inl (G.2.1, 30, .inl gtrc6315))] := hD
          obtain ⟨hr6311, w6316⟩ := hr6311
          refine lv_istore (lv' := [(7, .int r6311), (6, .int 1), (5, .int 0), (4, .int 5), (0, .ref h0), (1, .int (nI jt)), (2, .int 1), (3, .int x3)]) hx hb dX12_deal_208 hl (by decide) rfl (fun ls hl => ?_)
          refine lv_aload_n hx hb dX12_deal_210 rfl (lv_at hl 4 rfl) ?_
          refine gf_X12_380 hC rfl hK hP 3 rfl rfl dX12_deal_211 ?_
          refine lv_if_eq (tgt := 222) hx hb dX12_deal_214 (by decide) (fun c_214_6317 => ?_) (fun c_214_6317 => ?_)
          · refine lv_iload hx hb dX12_deal_222 (lv_at hl 0 rfl) ?_
            exact RI (v := r6311) hC hP hD hS [3, 0, 1, 2, 4] (jr16313, 5, nI jno, fnw (1424 + 8 * jno + 0), fnw (1424 + 8 * jno + 4), ip16314, gtrc6315) rfl rfl (by decide) (⟨trivial, by omega⟩) rfl dX12_deal_224
          · refine lv_bipush (v := (-15)) hx hb dX12_deal_217 (by decide) ?_
            refine lv_goto (tgt := 224) hx hb dX12_deal_219 (by decide) ?_
            exact RI (v := (-15)) hC hP hD hS [3, 0, 1, 2, 4] (jr16313, 5, nI jno, fnw (1424 + 8 * jno + 0), fnw (1424 + 8 * jno + 4), ip16314, gtrc6315) rfl rfl (by decide) (⟨trivial, by omega⟩) rfl dX12_deal_224
        · refine lv_aload_n hx hb dX12_deal_202 rfl (lv_at hl 3 rfl) ?_
          refine lv_iload_n hx hb dX12_deal_203 rfl (lv_at hl 5 rfl) ?_
          refine lv_iload_n hx hb dX12_deal_204 rfl (lv_at hl 6 rfl) ?_
          refine iV (wr := [(nw, .inl (G.2.1, 1662, .inl fnw)), (nsh, .inl (G.2.1, 4, .inl fnsh)), (nsf, .inl (G.2.1, 4, .inl fnsf))]) hC hK hl hP hD hS hA (m_dealt2 l G h0 x3 nw nk mhasKept nt mtaped nr mrowMany mroundOf mroundFrom mouts nm mfromHour mtoHour ns mfrom mto msort misFault mdeep mcoded mlines nl nc nF np ntr nb mbestCost nso nsi nit nsh nsf nss nrc 0 5 (nI jno) (fnw (1424 + 8 * jno + 0)) (fnw (1424 + 8 * jno + 4)) 0 fnrc (by omega) (by omega)) si_X12_372 [0, 4] [1, 2, 3] rfl rfl (by decide) rfl (by decide) (by decide) rfl rfl rfl rfl rfl (Nat.le_of_ble_eq_true rfl) ⟨Nat.le_of_ble_eq_true rfl, Nat.le_of_ble_eq_true rfl⟩ ⟨Nat.le_of_ble_eq_true rfl, Nat.le_of_ble_eq_true rfl⟩ dX12_deal_205 (fun r6318 u6319 H locs hr6318 hP hD hS => ?_)
          obtain ⟨jr16320, ip16321, gtrc6322⟩ := u6319
          try dsimp only at hr6318
          have hP : va_P G.1 vwCl [(nw, .inl (G.2.1, 1662, .inl fnw)), (nsh, .inl (G.2.1, 4, .inl fnsh)), (nsf, .inl (G.2.1, 4, .inl fnsf)), (h0, .inr (12, [.ref nw, .ref nk, .int mhasKept, .ref nt, .int mtaped, .ref nr, .int mrowMany, .int mroundOf, .int mroundFrom, .int mouts, .ref nm, .int mfromHour, .int mtoHour, .ref ns, .int mfrom, .int mto, .int msort, .int misFault, .int mdeep, .int mcoded, .int mlines, .ref nl, .ref nc, .ref nF, .ref np, .ref ntr, .ref nb, .int mbestCost, .ref nso, .ref nsi, .ref nit, .ref nsh, .ref nsf, .ref nss, .ref nrc, .int (nI jr16320), .int 5, .int (nI jno), .int (fnw (1424 + 8 * jno + 0)), .int (fnw (1424 + 8 * jno + 4)), .int ip16321])), (nrc, .inl (G.2.1, 30, .inl gtrc6322))] H := hP
          have hD : va_D A [(nw, .inl (G.2.1, 1662, .inl fnw)), (nsh, .inl (G.2.1, 4, .inl fnsh)), (nsf, .inl (G.2.1, 4, .inl fnsf)), (h0, .inr (12, [.ref nw, .ref nk, .int mhasKept, .ref nt, .int mtaped, .ref nr, .int mrowMany, .int mroundOf, .int mroundFrom, .int mouts, .ref nm, .int mfromHour, .int mtoHour, .ref ns, .int mfrom, .int mto, .int msort, .int misFault, .int mdeep, .int mcoded, .int mlines, .ref nl, .ref nc, .ref nF, .ref np, .ref ntr, .ref nb, .int mbestCost, .ref nso, .ref nsi, .ref nit, .ref nsh, .ref nsf, .ref nss, .ref nrc, .int (nI jr16320), .int 5, .int (nI jno), .int (fnw (1424 + 8 * jno + 0)), .int (fnw (1424 + 8 * jno + 4)), .int ip16321])), (nrc, .inl (G.2.1, 30, .inl gtrc6322))] := hD
          obtain ⟨hr6318, w6323⟩ := hr6318
          refine lv_istore (lv' := [(7, .int r6318), (6, .int 1), (5, .int 0), (4, .int 5), (0, .ref h0), (1, .int (nI jt)), (2, .int 2), (3, .int x3)]) hx hb dX12_deal_208 hl (by decide) rfl (fun ls hl => ?_)
          refine lv_aload_n hx hb dX12_deal_210 rfl (lv_at hl 4 rfl) ?_
          refine gf_X12_380 hC rfl hK hP 3 rfl rfl dX12_deal_211 ?_
          refine lv_if_eq (tgt := 222) hx hb dX12_deal_214 (by decide) (fun c_214_6324 => ?_) (fun c_214_6324 => ?_)
          · refine lv_iload hx hb dX12_deal_222 (lv_at hl 0 rfl) ?_
            exact RI (v := r6318) hC hP hD hS [3, 0, 1, 2, 4] (jr16320, 5, nI jno, fnw (1424 + 8 * jno + 0), fnw (1424 + 8 * jno + 4), ip16321, gtrc6322) rfl rfl (by decide) (⟨trivial, by omega⟩) rfl dX12_deal_224
          · refine lv_bipush (v := (-15)) hx hb dX12_deal_217 (by decide) ?_
            refine lv_goto (tgt := 224) hx hb dX12_deal_219 (by decide) ?_
            exact RI (v := (-15)) hC hP hD hS [3, 0, 1, 2, 4] (jr16320, 5, nI jno, fnw (1424 + 8 * jno + 0), fnw (1424 + 8 * jno + 4), ip16321, gtrc6322) rfl rfl (by decide) (⟨trivial, by omega⟩) rfl dX12_deal_224
        · refine lv_aload_n hx hb dX12_deal_202 rfl (lv_at hl 3 rfl) ?_
          refine lv_iload_n hx hb dX12_deal_203 rfl (lv_at hl 5 rfl) ?_
          refine lv_iload_n hx hb dX12_deal_204 rfl (lv_at hl 6 rfl) ?_
          refine iV (wr := [(nw, .inl (G.2.1, 1662, .inl fnw)), (nsh, .inl (G.2.1, 4, .inl fnsh)), (nsf, .inl (G.2.1, 4, .inl fnsf))]) hC hK hl hP hD hS hA (m_dealt3 l G h0 x3 nw nk mhasKept nt mtaped nr mrowMany mroundOf mroundFrom mouts nm mfromHour mtoHour ns mfrom mto msort misFault mdeep mcoded mlines nl nc nF np ntr nb mbestCost nso nsi nit nsh nsf nss nrc 0 5 (nI jno) (fnw (1424 + 8 * jno + 0)) (fnw (1424 + 8 * jno + 4)) 0 fnrc (by omega) (by omega)) si_X12_372 [0, 4] [1, 2, 3] rfl rfl (by decide) rfl (by decide) (by decide) rfl rfl rfl rfl rfl (Nat.le_of_ble_eq_true rfl) ⟨Nat.le_of_ble_eq_true rfl, Nat.le_of_ble_eq_true rfl⟩ ⟨Nat.le_of_ble_eq_true rfl, Nat.le_of_ble_eq_true rfl⟩ dX12_deal_205 (fun r6325 u6326 H locs hr6325 hP hD hS => ?_)
          obtain ⟨jr16327, ip16328, gtrc6329⟩ := u6326
          try dsimp only at hr6325
          have hP : va_P G.1 vwCl [(nw, .inl (G.2.1, 1662, .inl fnw)), (nsh, .inl (G.2.1, 4, .inl fnsh)), (nsf, .inl (G.2.1, 4, .inl fnsf)), (h0, .inr (12, [.ref nw, .ref nk, .int mhasKept, .ref nt, .int mtaped, .ref nr, .int mrowMany, .int mroundOf, .int mroundFrom, .int mouts, .ref nm, .int mfromHour, .int mtoHour, .ref ns, .int mfrom, .int mto, .int msort, .int misFault, .int mdeep, .int mcoded, .int mlines, .ref nl, .ref nc, .ref nF, .ref np, .ref ntr, .ref nb, .int mbestCost, .ref nso, .ref nsi, .ref nit, .ref nsh, .ref nsf, .ref nss, .ref nrc, .int (nI jr16327), .int 5, .int (nI jno), .int (fnw (1424 + 8 * jno + 0)), .int (fnw (1424 + 8 * jno + 4)), .int ip16328])), (nrc, .inl (G.2.1, 30, .inl gtrc6329))] H := hP
          have hD : va_D A [(nw, .inl (G.2.1, 1662, .inl fnw)), (nsh, .inl (G.2.1, 4, .inl fnsh)), (nsf, .inl (G.2.1, 4, .inl fnsf)), (h0, .inr (12, [.ref nw, .ref nk, .int mhasKept, .ref nt, .int mtaped, .ref nr, .int mrowMany, .int mroundOf, .int mroundFrom, .int mouts, .ref nm, .int mfromHour, .int mtoHour, .ref ns, .int mfrom, .int mto, .int msort, .int misFault, .int mdeep, .int mcoded, .int mlines, .ref nl, .ref nc, .ref nF, .ref np, .ref ntr, .ref nb, .int mbestCost, .ref nso, .ref nsi, .ref nit, .ref nsh, .ref nsf, .ref nss, .ref nrc, .int (nI jr16327), .int 5, .int (nI jno), .int (fnw (1424 + 8 * jno + 0)), .int (fnw (1424 + 8 * jno + 4)), .int ip16328])), (nrc, .inl (G.2.1, 30, .inl gtrc6329))] := hD
          obtain ⟨hr6325, w6330⟩ := hr6325
          refine lv_istore (lv' := [(7, .int r6325), (6, .int 1), (5, .int 0), (4, .int 5), (0, .ref h0), (1, .int (nI jt)), (2, .int 3), (3, .int x3)]) hx hb dX12_deal_208 hl (by decide) rfl (fun ls hl => ?_)
          refine lv_aload_n hx hb dX12_deal_210 rfl (lv_at hl 4 rfl) ?_
          refine gf_X12_380 hC rfl hK hP 3 rfl rfl dX12_deal_211 ?_
          refine lv_if_eq (tgt := 222) hx hb dX12_deal_214 (by decide) (fun c_214_6331 => ?_) (fun c_214_6331 => ?_)
          · refine lv_iload hx hb dX12_deal_222 (lv_at hl 0 rfl) ?_
            exact RI (v := r6325) hC hP hD hS [3, 0, 1, 2, 4] (jr16327, 5, nI jno, fnw (1424 + 8 * jno + 0), fnw (1424 + 8 * jno + 4), ip16328, gtrc6329) rfl rfl (by decide) (⟨trivial, by omega⟩) rfl dX12_deal_224
          · refine lv_bipush (v := (-15)) hx hb dX12_deal_217 (by decide) ?_
            refine lv_goto (tgt := 224) hx hb dX12_deal_219 (by decide) ?_
            exact RI (v := (-15)) hC hP hD hS [3, 0, 1, 2, 4] (jr16327, 5, nI jno, fnw (1424 + 8 * jno + 0), fnw (1424 + 8 * jno + 4), ip16328, gtrc6329) rfl rfl (by decide) (⟨trivial, by omega⟩) rfl dX12_deal_224
      · refine lv_istore (lv' := [(4, .int 6), (0, .ref h0), (1, .int (nI jt)), (2, .int x2), (3, .int x3)]) hx hb dX12_deal_28 hl (by decide) rfl (fun ls hl => ?_)
        refine lv_iload hx hb dX12_deal_30 (lv_at hl 0 rfl) ?_
        refine lv_if_ge (tgt := 37) hx hb dX12_deal_32 (by decide) (fun _ => ?_) (fun c9 => absurd (by decide) c9)
        refine lv_aload_n hx hb dX12_deal_37 rfl (lv_at hl 1 rfl) ?_
        refine lv_iload hx hb dX12_deal_38 (lv_at hl 0 rfl) ?_
        refine pf_X12_354 hC rfl hK hP hD hS 0 (ws' := [(h0, .inr (12, [.ref nw, .ref nk, .int mhasKept, .ref nt, .int mtaped, .ref nr, .int mrowMany, .int mroundOf, .int mroundFrom, .int mouts, .ref nm, .int mfromHour, .int mtoHour, .ref ns, .int mfrom, .int mto, .int msort, .int misFault, .int mdeep, .int mcoded, .int mlines, .ref nl, .ref nc, .ref nF, .ref np, .ref ntr, .ref nb, .int mbestCost, .ref nso, .ref nsi, .ref nit, .ref nsh, .ref nsf, .ref nss, .ref nrc, .int 0, .int 6, .int mnumber, .int mwhose, .int msize, .int misParted])), (nw, .inl (G.2.1, 1662, .inl fnw)), (nsh, .inl (G.2.1, 4, .inl fnsh)), (nsf, .inl (G.2.1, 4, .inl fnsf)), (nrc, .inl (G.2.1, 30, .inl fnrc))]) rfl (Nat.le_of_ble_eq_true rfl) rfl rfl rfl dX12_deal_40 (fun H locs hP hD hS => ?_)
        refine lv_aload_n hx hb dX12_deal_43 rfl (lv_at hl 1 rfl) ?_
        refine lv_aload_n hx hb dX12_deal_44 rfl (lv_at hl 1 rfl) ?_
        refine gf_X12_75 hC rfl hK hP 0 rfl rfl dX12_deal_45 ?_
        refine lv_iload_n hx hb dX12_deal_48 rfl (lv_at hl 2 rfl) ?_
        refine ald hC hK hP 3 rfl (vp_in_nI (by omega) (by omega)) (k := jt) (nI_clamp (by omega)) (v := fnsf jt) rfl dX12_deal_49 ?_
        refine lv_topi (fun x6332 ex6332 => ?_)
        obtain ⟨hko9, jno, hjno, ejno⟩ := a6156
        refine eqi (x1 := nI jno) (ex6332.trans ejno) ?_
        refine pf_X12_378 hC rfl hK hP hD hS 0 (ws' := [(h0, .inr (12, [.ref nw, .ref nk, .int mhasKept, .ref nt, .int mtaped, .ref nr, .int mrowMany, .int mroundOf, .int mroundFrom, .int mouts, .ref nm, .int mfromHour, .int mtoHour, .ref ns, .int mfrom, .int mto, .int msort, .int misFault, .int mdeep, .int mcoded, .int mlines, .ref nl, .ref nc, .ref nF, .ref np, .ref ntr, .ref nb, .int mbestCost, .ref nso, .ref nsi, .ref nit, .ref nsh, .ref nsf, .ref nss, .ref nrc, .int 0, .int 6, .int (nI jno), .int mwhose, .int msize, .int misParted])), (nw, .inl (G.2.1, 1662, .inl fnw)), (nsh, .inl (G.2.1, 4, .inl fnsh)), (nsf, .inl (G.2.1, 4, .inl fnsf)), (nrc, .inl (G.2.1, 30, .inl fnrc))]) rfl (Nat.le_of_ble_eq_true rfl) rfl rfl rfl dX12_deal_50 (fun H locs hP hD hS => ?_)
        refine lv_aload_n hx hb dX12_deal_53 rfl (lv_at hl 1 rfl) ?_
        refine gf_X12_72 hC rfl hK hP 0 rfl rfl dX12_deal_54 ?_
        refine lv_iload_n hx hb dX12_deal_57 rfl (lv_at hl 2 rfl) ?_
        refine ald hC hK hP 2 rfl (vp_in_nI (by omega) (by omega)) (k := jt) (nI_clamp (by omega)) (v := fnsh jt) rfl dX12_deal_58 ?_
        refine lv_topi (fun x6333 ex6333 => ?_)
        refine lv_iconst (v := 1) hx hb dX12_deal_59 (by decide) ?_
        refine lv_icmp_ne (tgt := 67) hx hb dX12_deal_60 (by decide) (fun _ => ?_) (fun c9 => absurd c9 (fun h9 => absurd (hko9.symm.trans ((ex6333.symm).trans h9)) (by decide)))
        refine lv_iconst (v := 0) hx hb dX12_deal_67 (by decide) ?_
        refine lv_istore (lv' := [(5, .int 0), (4, .int 6), (0, .ref h0), (1, .int (nI jt)), (2, .int x2), (3, .int x3)]) hx hb dX12_deal_68 hl (by decide) rfl (fun ls hl => ?_)
        refine lv_aload_n hx hb dX12_deal_70 rfl (lv_at hl 2 rfl) ?_
        refine gf_X12_72 hC rfl hK hP 0 rfl rfl dX12_deal_71 ?_
        refine lv_iload_n hx hb dX12_deal_74 rfl (lv_at hl 3 rfl) ?_
        refine ald hC hK hP 2 rfl (vp_in_nI (by omega) (by omega)) (k := jt) (nI_clamp (by omega)) (v := fnsh jt) rfl dX12_deal_75 ?_
        refine lv_topi (fun x6334 ex6334 => ?_)
        refine lv_iconst (v := 2) hx hb dX12_deal_76 (by decide) ?_
        refine lv_icmp_ne (tgt := 84) hx hb dX12_deal_77 (by decide) (fun _ => ?_) (fun c9 => absurd c9 (fun h9 => absurd (hko9.symm.trans ((ex6334.symm).trans h9)) (by decide)))
        refine lv_iconst (v := 0) hx hb dX12_deal_84 (by decide) ?_
        refine lv_istore (lv' := [(6, .int 0), (5, .int 0), (4, .int 6), (0, .ref h0), (1, .int (nI jt)), (2, .int x2), (3, .int x3)]) hx hb dX12_deal_85 hl (by decide) rfl (fun ls hl => ?_)
        refine lv_aload_n hx hb dX12_deal_87 rfl (lv_at hl 3 rfl) ?_
        refine lv_iload hx hb dX12_deal_88 (lv_at hl 1 rfl) ?_
        refine lv_if_eq (tgt := 105) hx hb dX12_deal_90 (by decide) (fun _ => ?_) (fun c9 => absurd (by decide) c9)
        refine lv_iload hx hb dX12_deal_105 (lv_at hl 0 rfl) ?_
        refine lv_if_eq (tgt := 122) hx hb dX12_deal_107 (by decide) (fun _ => ?_) (fun c9 => absurd (by decide) c9)
        refine lv_aload_n hx hb dX12_deal_122 rfl (lv_at hl 3 rfl) ?_
        refine gf_X12_9 hC rfl hK hP 0 rfl rfl dX12_deal_123 ?_
        refine lv_sipush (v := 1552) hx hb dX12_deal_126 (by decide) ?_
        refine lv_iconst (v := 4) hx hb dX12_deal_129 (by decide) ?_
        refine lv_aload_n hx hb dX12_deal_130 rfl (lv_at hl 3 rfl) ?_
        refine gf_X12_378 hC rfl hK hP 0 rfl rfl dX12_deal_131 ?_
        refine lv_imul hx hb dX12_deal_134 ?_
        refine eqi (x1 := nI (4 * jno)) (nI_mul 4 jno) ?_
        refine lv_iadd hx hb dX12_deal_135 ?_
        refine eqi (x1 := nI (1552 + 4 * jno)) (nI_add 1552 (4 * jno)) ?_
        refine lv_iconst (v := 0) hx hb dX12_deal_136 (by decide) ?_
        refine lv_iadd hx hb dX12_deal_137 ?_
        refine eqi (x1 := nI (1552 + 4 * jno + 0)) (nI_add (1552 + 4 * jno) 0) ?_
        refine ald hC hK hP 1 rfl (vp_in_nI (by omega) (by omega)) (k := (1552 + 4 * jno + 0)) (nI_clamp (by omega)) (v := fnw (1552 + 4 * jno + 0)) rfl dX12_deal_138 ?_
        refine lv_topi (fun x6335 ex6335 => ?_)
        refine pf_X12_375 hC rfl hK hP hD hS 0 (ws' := [(h0, .inr (12, [.ref nw, .ref nk, .int mhasKept, .ref nt, .int mtaped, .ref nr, .int mrowMany, .int mroundOf, .int mroundFrom, .int mouts, .ref nm, .int mfromHour, .int mtoHour, .ref ns, .int mfrom, .int mto, .int msort, .int misFault, .int mdeep, .int mcoded, .int mlines, .ref nl, .ref nc, .ref nF, .ref np, .ref ntr, .ref nb, .int mbestCost, .ref nso, .ref nsi, .ref nit, .ref nsh, .ref nsf, .ref nss, .ref nrc, .int 0, .int 6, .int (nI jno), .int x6335, .int msize, .int misParted])), (nw, .inl (G.2.1, 1662, .inl fnw)), (nsh, .inl (G.2.1, 4, .inl fnsh)), (nsf, .inl (G.2.1, 4, .inl fnsf)), (nrc, .inl (G.2.1, 30, .inl fnrc))]) rfl (Nat.le_of_ble_eq_true rfl) rfl rfl rfl dX12_deal_139 (fun H locs hP hD hS => ?_)
        refine lv_aload_n hx hb dX12_deal_142 rfl (lv_at hl 3 rfl) ?_
        refine lv_iload hx hb dX12_deal_143 (lv_at hl 1 rfl) ?_
        refine lv_if_eq (tgt := 160) hx hb dX12_deal_145 (by decide) (fun _ => ?_) (fun c9 => absurd (by decide) c9)
        refine lv_iload hx hb dX12_deal_160 (lv_at hl 0 rfl) ?_
        refine lv_if_eq (tgt := 177) hx hb dX12_deal_162 (by decide) (fun _ => ?_) (fun c9 => absurd (by decide) c9)
        refine lv_aload_n hx hb dX12_deal_177 rfl (lv_at hl 3 rfl) ?_
        refine gf_X12_9 hC rfl hK hP 0 rfl rfl dX12_deal_178 ?_
        refine lv_sipush (v := 1552) hx hb dX12_deal_181 (by decide) ?_
        refine lv_iconst (v := 4) hx hb dX12_deal_184 (by decide) ?_
        refine lv_aload_n hx hb dX12_deal_185 rfl (lv_at hl 3 rfl) ?_
        refine gf_X12_378 hC rfl hK hP 0 rfl rfl dX12_deal_186 ?_
        refine lv_imul hx hb dX12_deal_189 ?_
        refine eqi (x1 := nI (4 * jno)) (nI_mul 4 jno) ?_
        refine lv_iadd hx hb dX12_deal_190 ?_
        refine eqi (x1 := nI (1552 + 4 * jno)) (nI_add 1552 (4 * jno)) ?_
        refine lv_iconst (v := 2) hx hb dX12_deal_191 (by decide) ?_
        refine lv_iadd hx hb dX12_deal_192 ?_
        refine eqi (x1 := nI (1552 + 4 * jno + 2)) (nI_add (1552 + 4 * jno) 2) ?_
        refine ald hC hK hP 1 rfl (vp_in_nI (by omega) (by omega)) (k := (1552 + 4 * jno + 2)) (nI_clamp (by omega)) (v := fnw (1552 + 4 * jno + 2)) rfl dX12_deal_193 ?_
        refine lv_topi (fun x6336 ex6336 => ?_)
        refine pf_X12_369 hC rfl hK hP hD hS 0 (ws' := [(h0, .inr (12, [.ref nw, .ref nk, .int mhasKept, .ref nt, .int mtaped, .ref nr, .int mrowMany, .int mroundOf, .int mroundFrom, .int mouts, .ref nm, .int mfromHour, .int mtoHour, .ref ns, .int mfrom, .int mto, .int msort, .int misFault, .int mdeep, .int mcoded, .int mlines, .ref nl, .ref nc, .ref nF, .ref np, .ref ntr, .ref nb, .int mbestCost, .ref nso, .ref nsi, .ref nit, .ref nsh, .ref nsf, .ref nss, .ref nrc, .int 0, .int 6, .int (nI jno), .int x6335, .int x6336, .int misParted])), (nw, .inl (G.2.1, 1662, .inl fnw)), (nsh, .inl (G.2.1, 4, .inl fnsh)), (nsf, .inl (G.2.1, 4, .inl fnsf)), (nrc, .inl (G.2.1, 30, .inl fnrc))]) rfl (Nat.le_of_ble_eq_true rfl) rfl rfl rfl dX12_deal_194 (fun H locs hP hD hS => ?_)
        refine lv_aload_n hx hb dX12_deal_197 rfl (lv_at hl 3 rfl) ?_
        refine lv_iconst (v := 0) hx hb dX12_deal_198 (by decide) ?_
        refine pf_X12_380 hC rfl hK hP hD hS 0 (ws' := [(h0, .inr (12, [.ref nw, .ref nk, .int mhasKept, .ref nt, .int mtaped, .ref nr, .int mrowMany, .int mroundOf, .int mroundFrom, .int mouts, .ref nm, .int mfromHour, .int mtoHour, .ref ns, .int mfrom, .int mto, .int msort, .int misFault, .int mdeep, .int mcoded, .int mlines, .ref nl, .ref nc, .ref nF, .ref np, .ref ntr, .ref nb, .int mbestCost, .ref nso, .ref nsi, .ref nit, .ref nsh, .ref nsf, .ref nss, .ref nrc, .int 0, .int 6, .int (nI jno), .int x6335, .int x6336, .int 0])), (nw, .inl (G.2.1, 1662, .inl fnw)), (nsh, .inl (G.2.1, 4, .inl fnsh)), (nsf, .inl (G.2.1, 4, .inl fnsf)), (nrc, .inl (G.2.1, 30, .inl fnrc))]) rfl (Nat.le_of_ble_eq_true rfl) rfl (by decide +kernel) (by decide +kernel) dX12_deal_199 (fun H locs hP hD hS => ?_)
        obtain ⟨jdl, hjdl, rfl⟩ := Wi_nat (N := 3) (by decide) a6154
        rcases (show jdl = 0 ∨ jdl = 1 ∨ jdl = 2 ∨ jdl = 3 by omega) with rfl | rfl | rfl | rfl
        · refine lv_aload_n hx hb dX12_deal_202 rfl (lv_at hl 3 rfl) ?_
          refine lv_iload_n hx hb dX12_deal_203 rfl (lv_at hl 5 rfl) ?_
          refine lv_iload_n hx hb dX12_deal_204 rfl (lv_at hl 6 rfl) ?_
          refine iV (wr := [(nw, .inl (G.2.1, 1662, .inl fnw)), (nsh, .inl (G.2.1, 4, .inl fnsh)), (nsf, .inl (G.2.1, 4, .inl fnsf))]) hC hK hl hP hD hS hA (m_dealt0 l G h0 x3 nw nk mhasKept nt mtaped nr mrowMany mroundOf mroundFrom mouts nm mfromHour mtoHour ns mfrom mto msort misFault mdeep mcoded mlines nl nc nF np ntr nb mbestCost nso nsi nit nsh nsf nss nrc 0 6 (nI jno) x6335 x6336 0 fnrc (by omega) (by omega)) si_X12_372 [0, 4] [1, 2, 3] rfl rfl (by decide) rfl (by decide) (by decide) rfl rfl rfl rfl rfl (Nat.le_of_ble_eq_true rfl) ⟨Nat.le_of_ble_eq_true rfl, Nat.le_of_ble_eq_true rfl⟩ ⟨Nat.le_of_ble_eq_true rfl, Nat.le_of_ble_eq_true rfl⟩ dX12_deal_205 (fun r6337 u6338 H locs hr6337 hP hD hS => ?_)
          obtain ⟨jr16339, ip16340, gtrc6341⟩ := u6338
          try dsimp only at hr6337
          have hP : va_P G.1 vwCl [(nw, .inl (G.2.1, 1662, .inl fnw)), (nsh, .inl (G.2.1, 4, .inl fnsh)), (nsf, .inl (G.2.1, 4, .inl fnsf)), (h0, .inr (12, [.ref nw, .ref nk, .int mhasKept, .ref nt, .int mtaped, .ref nr, .int mrowMany, .int mroundOf, .int mroundFrom, .int mouts, .ref nm, .int mfromHour, .int mtoHour, .ref ns, .int mfrom, .int mto, .int msort, .int misFault, .int mdeep, .int mcoded, .int mlines, .ref nl, .ref nc, .ref nF, .ref np, .ref ntr, .ref nb, .int mbestCost, .ref nso, .ref nsi, .ref nit, .ref nsh, .ref nsf, .ref nss, .ref nrc, .int (nI jr16339), .int 6, .int (nI jno), .int x6335, .int x6336, .int ip16340])), (nrc, .inl (G.2.1, 30, .inl gtrc6341))] H := hP
          have hD : va_D A [(nw, .inl (G.2.1, 1662, .inl fnw)), (nsh, .inl (G.2.1, 4, .inl fnsh)), (nsf, .inl (G.2.1, 4, .inl fnsf)), (h0, .inr (12, [.ref nw, .ref nk, .int mhasKept, .ref nt, .int mtaped, .ref nr, .int mrowMany, .int mroundOf, .int mroundFrom, .int mouts, .ref nm, .int mfromHour, .int mtoHour, .ref ns, .int mfrom, .int mto, .int msort, .int misFault, .int mdeep, .int mcoded, .int mlines, .ref nl, .ref nc, .ref nF, .ref np, .ref ntr, .ref nb, .int mbestCost, .ref nso, .ref nsi, .ref nit, .ref nsh, .ref nsf, .ref nss, .ref nrc, .int (nI jr16339), .int 6, .int (nI jno), .int x6335, .int x6336, .int ip16340])), (nrc, .inl (G.2.1, 30, .inl gtrc6341))] := hD
          obtain ⟨hr6337, w6342⟩ := hr6337
          refine lv_istore (lv' := [(7, .int r6337), (6, .int 0), (5, .int 0), (4, .int 6), (0, .ref h0), (1, .int (nI jt)), (2, .int 0), (3, .int x3)]) hx hb dX12_deal_208 hl (by decide) rfl (fun ls hl => ?_)
          refine lv_aload_n hx hb dX12_deal_210 rfl (lv_at hl 4 rfl) ?_
          refine gf_X12_380 hC rfl hK hP 3 rfl rfl dX12_deal_211 ?_
          refine lv_if_eq (tgt := 222) hx hb dX12_deal_214 (by decide) (fun c_214_6343 => ?_) (fun c_214_6343 => ?_)
          · refine lv_iload hx hb dX12_deal_222 (lv_at hl 0 rfl) ?_
            exact RI (v := r6337) hC hP hD hS [3, 0, 1, 2, 4] (jr16339, 6, nI jno, x6335, x6336, ip16340, gtrc6341) rfl rfl (by decide) (⟨trivial, by omega⟩) rfl dX12_deal_224
          · refine lv_bipush (v := (-15)) hx hb dX12_deal_217 (by decide) ?_
            refine lv_goto (tgt := 224) hx hb dX12_deal_219 (by decide) ?_
            exact RI (v := (-15)) hC hP hD hS [3, 0, 1, 2, 4] (jr16339, 6, nI jno, x6335, x6336, ip16340, gtrc6341) rfl rfl (by decide) (⟨trivial, by omega⟩) rfl dX12_deal_224
        · refine lv_aload_n hx hb dX12_deal_202 rfl (lv_at hl 3 rfl) ?_
          refine lv_iload_n hx hb dX12_deal_203 rfl (lv_at hl 5 rfl) ?_
          refine lv_iload_n hx hb dX12_deal_204 rfl (lv_at hl 6 rfl) ?_
          refine iV (wr := [(nw, .inl (G.2.1, 1662, .inl fnw)), (nsh, .inl (G.2.1, 4, .inl fnsh)), (nsf, .inl (G.2.1, 4, .inl fnsf))]) hC hK hl hP hD hS hA (m_dealt1 l G h0 x3 nw nk mhasKept nt mtaped nr mrowMany mroundOf mroundFrom mouts nm mfromHour mtoHour ns mfrom mto msort misFault mdeep mcoded mlines nl nc nF np ntr nb mbestCost nso nsi nit nsh nsf nss nrc 0 6 (nI jno) x6335 x6336 0 fnrc (by omega) (by omega)) si_X12_372 [0, 4] [1, 2, 3] rfl rfl (by decide) rfl (by decide) (by decide) rfl rfl rfl rfl rfl (Nat.le_of_ble_eq_true rfl) ⟨Nat.le_of_ble_eq_true rfl, Nat.le_of_ble_eq_true rfl⟩ ⟨Nat.le_of_ble_eq_true rfl, Nat.le_of_ble_eq_true rfl⟩ dX12_deal_205 (fun r6344 u6345 H locs hr6344 hP hD hS => ?_)
          obtain ⟨jr16346, ip16347, gtrc6348⟩ := u6345
          try dsimp only at hr6344
          have hP : va_P G.1 vwCl [(nw, .inl (G.2.1, 1662, .inl fnw)), (nsh, .inl (G.2.1, 4, .inl fnsh)), (nsf, .inl (G.2.1, 4, .inl fnsf)), (h0, .inr (12, [.ref nw, .ref nk, .int mhasKept, .ref nt, .int mtaped, .ref nr, .int mrowMany, .int mroundOf, .int mroundFrom, .int mouts, .ref nm, .int mfromHour, .int mtoHour, .ref ns, .int mfrom, .int mto, .int msort, .int misFault, .int mdeep, .int mcoded, .int mlines, .ref nl, .ref nc, .ref nF, .ref np, .ref ntr, .ref nb, .int mbestCost, .ref nso, .ref nsi, .ref nit, .ref nsh, .ref nsf, .ref nss, .ref nrc, .int (nI jr16346), .int 6, .int (nI jno), .int x6335, .int x6336, .int ip16347])), (nrc, .inl (G.2.1, 30, .inl gtrc6348))] H := hP
          have hD : va_D A [(nw, .inl (G.2.1, 1662, .inl fnw)), (nsh, .inl (G.2.1, 4, .inl fnsh)), (nsf, .inl (G.2.1, 4, .inl fnsf)), (h0, .inr (12, [.ref nw, .ref nk, .int mhasKept, .ref nt, .int mtaped, .ref nr, .int mrowMany, .int mroundOf, .int mroundFrom, .int mouts, .ref nm, .int mfromHour, .int mtoHour, .ref ns, .int mfrom, .int mto, .int msort, .int misFault, .int mdeep, .int mcoded, .int mlines, .ref nl, .ref nc, .ref nF, .ref np, .ref ntr, .ref nb, .int mbestCost, .ref nso, .ref nsi, .ref nit, .ref nsh, .ref nsf, .ref nss, .ref nrc, .int (nI jr16346), .int 6, .int (nI jno), .int x6335, .int x6336, .int ip16347])), (nrc, .inl (G.2.1, 30, .inl gtrc6348))] := hD
          obtain ⟨hr6344, w6349⟩ := hr6344
          refine lv_istore (lv' := [(7, .int r6344), (6, .int 0), (5, .int 0), (4, .int 6), (0, .ref h0), (1, .int (nI jt)), (2, .int 1), (3, .int x3)]) hx hb dX12_deal_208 hl (by decide) rfl (fun ls hl => ?_)
          refine lv_aload_n hx hb dX12_deal_210 rfl (lv_at hl 4 rfl) ?_
          refine gf_X12_380 hC rfl hK hP 3 rfl rfl dX12_deal_211 ?_
          refine lv_if_eq (tgt := 222) hx hb dX12_deal_214 (by decide) (fun c_214_6350 => ?_) (fun c_214_6350 => ?_)
          · refine lv_iload hx hb dX12_deal_222 (lv_at hl 0 rfl) ?_
            exact RI (v := r6344) hC hP hD hS [3, 0, 1, 2, 4] (jr16346, 6, nI jno, x6335, x6336, ip16347, gtrc6348) rfl rfl (by decide) (⟨trivial, by omega⟩) rfl dX12_deal_224
          · refine lv_bipush (v := (-15)) hx hb dX12_deal_217 (by decide) ?_
            refine lv_goto (tgt := 224) hx hb dX12_deal_219 (by decide) ?_
            exact RI (v := (-15)) hC hP hD hS [3, 0, 1, 2, 4] (jr16346, 6, nI jno, x6335, x6336, ip16347, gtrc6348) rfl rfl (by decide) (⟨trivial, by omega⟩) rfl dX12_deal_224
        · refine lv_aload_n hx hb dX12_deal_202 rfl (lv_at hl 3 rfl) ?_
          refine lv_iload_n hx hb dX12_deal_203 rfl (lv_at hl 5 rfl) ?_
          refine lv_iload_n hx hb dX12_deal_204 rfl (lv_at hl 6 rfl) ?_
          refine iV (wr := [(nw, .inl (G.2.1, 1662, .inl fnw)), (nsh, .inl (G.2.1, 4, .inl fnsh)), (nsf, .inl (G.2.1, 4, .inl fnsf))]) hC hK hl hP hD hS hA (m_dealt2 l G h0 x3 nw nk mhasKept nt mtaped nr mrowMany mroundOf mroundFrom mouts nm mfromHour mtoHour ns mfrom mto msort misFault mdeep mcoded mlines nl nc nF np ntr nb mbestCost nso nsi nit nsh nsf nss nrc 0 6 (nI jno) x6335 x6336 0 fnrc (by omega) (by omega)) si_X12_372 [0, 4] [1, 2, 3] rfl rfl (by decide) rfl (by decide) (by decide) rfl rfl rfl rfl rfl (Nat.le_of_ble_eq_true rfl) ⟨Nat.le_of_ble_eq_true rfl, Nat.le_of_ble_eq_true rfl⟩ ⟨Nat.le_of_ble_eq_true rfl, Nat.le_of_ble_eq_true rfl⟩ dX12_deal_205 (fun r6351 u6352 H locs hr6351 hP hD hS => ?_)
          obtain ⟨jr16353, ip16354, gtrc6355⟩ := u6352
          try dsimp only at hr6351
          have hP : va_P G.1 vwCl [(nw, .inl (G.2.1, 1662, .inl fnw)), (nsh, .inl (G.2.1, 4, .inl fnsh)), (nsf, .inl (G.2.1, 4, .inl fnsf)), (h0, .inr (12, [.ref nw, .ref nk, .int mhasKept, .ref nt, .int mtaped, .ref nr, .int mrowMany, .int mroundOf, .int mroundFrom, .int mouts, .ref nm, .int mfromHour, .int mtoHour, .ref ns, .int mfrom, .int mto, .int msort, .int misFault, .int mdeep, .int mcoded, .int mlines, .ref nl, .ref nc, .ref nF, .ref np, .ref ntr, .ref nb, .int mbestCost, .ref nso, .ref nsi, .ref nit, .ref nsh, .ref nsf, .ref nss, .ref nrc, .int (nI jr16353), .int 6, .int (nI jno), .int x6335, .int x6336, .int ip16354])), (nrc, .inl (G.2.1, 30, .inl gtrc6355))] H := hP
          have hD : va_D A [(nw, .inl (G.2.1, 1662, .inl fnw)), (nsh, .inl (G.2.1, 4, .inl fnsh)), (nsf, .inl (G.2.1, 4, .inl fnsf)), (h0, .inr (12, [.ref nw, .ref nk, .int mhasKept, .ref nt, .int mtaped, .ref nr, .int mrowMany, .int mroundOf, .int mroundFrom, .int mouts, .ref nm, .int mfromHour, .int mtoHour, .ref ns, .int mfrom, .int mto, .int msort, .int misFault, .int mdeep, .int mcoded, .int mlines, .ref nl, .ref nc, .ref nF, .ref np, .ref ntr, .ref nb, .int mbestCost, .ref nso, .ref nsi, .ref nit, .ref nsh, .ref nsf, .ref nss, .ref nrc, .int (nI jr16353), .int 6, .int (nI jno), .int x6335, .int x6336, .int ip16354])), (nrc, .inl (G.2.1, 30, .inl gtrc6355))] := hD
          obtain ⟨hr6351, w6356⟩ := hr6351
          refine lv_istore (lv' := [(7, .int r6351), (6, .int 0), (5, .int 0), (4, .int 6), (0, .ref h0), (1, .int (nI jt)), (2, .int 2), (3, .int x3)]) hx hb dX12_deal_208 hl (by decide) rfl (fun ls hl => ?_)
          refine lv_aload_n hx hb dX12_deal_210 rfl (lv_at hl 4 rfl) ?_
          refine gf_X12_380 hC rfl hK hP 3 rfl rfl dX12_deal_211 ?_
          refine lv_if_eq (tgt := 222) hx hb dX12_deal_214 (by decide) (fun c_214_6357 => ?_) (fun c_214_6357 => ?_)
          · refine lv_iload hx hb dX12_deal_222 (lv_at hl 0 rfl) ?_
            exact RI (v := r6351) hC hP hD hS [3, 0, 1, 2, 4] (jr16353, 6, nI jno, x6335, x6336, ip16354, gtrc6355) rfl rfl (by decide) (⟨trivial, by omega⟩) rfl dX12_deal_224
          · refine lv_bipush (v := (-15)) hx hb dX12_deal_217 (by decide) ?_
            refine lv_goto (tgt := 224) hx hb dX12_deal_219 (by decide) ?_
            exact RI (v := (-15)) hC hP hD hS [3, 0, 1, 2, 4] (jr16353, 6, nI jno, x6335, x6336, ip16354, gtrc6355) rfl rfl (by decide) (⟨trivial, by omega⟩) rfl dX12_deal_224
        · refine lv_aload_n hx hb dX12_deal_202 rfl (lv_at hl 3 rfl) ?_
          refine lv_iload_n hx hb dX12_deal_203 rfl (lv_at hl 5 rfl) ?_
          refine lv_iload_n hx hb dX12_deal_204 rfl (lv_at hl 6 rfl) ?_
          refine iV (wr := [(nw, .inl (G.2.1, 1662, .inl fnw)), (nsh, .inl (G.2.1, 4, .inl fnsh)), (nsf, .inl (G.2.1, 4, .inl fnsf))]) hC hK hl hP hD hS hA (m_dealt3 l G h0 x3 nw nk mhasKept nt mtaped nr mrowMany mroundOf mroundFrom mouts nm mfromHour mtoHour ns mfrom mto msort misFault mdeep mcoded mlines nl nc nF np ntr nb mbestCost nso nsi nit nsh nsf nss nrc 0 6 (nI jno) x6335 x6336 0 fnrc (by omega) (by omega)) si_X12_372 [0, 4] [1, 2, 3] rfl rfl (by decide) rfl (by decide) (by decide) rfl rfl rfl rfl rfl (Nat.le_of_ble_eq_true rfl) ⟨Nat.le_of_ble_eq_true rfl, Nat.le_of_ble_eq_true rfl⟩ ⟨Nat.le_of_ble_eq_true rfl, Nat.le_of_ble_eq_true rfl⟩ dX12_deal_205 (fun r6358 u6359 H locs hr6358 hP hD hS => ?_)
          obtain ⟨jr16360, ip16361, gtrc6362⟩ := u6359
          try dsimp only at hr6358
          have hP : va_P G.1 vwCl [(nw, .inl (G.2.1, 1662, .inl fnw)), (nsh, .inl (G.2.1, 4, .inl fnsh)), (nsf, .inl (G.2.1, 4, .inl fnsf)), (h0, .inr (12, [.ref nw, .ref nk, .int mhasKept, .ref nt, .int mtaped, .ref nr, .int mrowMany, .int mroundOf, .int mroundFrom, .int mouts, .ref nm, .int mfromHour, .int mtoHour, .ref ns, .int mfrom, .int mto, .int msort, .int misFault, .int mdeep, .int mcoded, .int mlines, .ref nl, .ref nc, .ref nF, .ref np, .ref ntr, .ref nb, .int mbestCost, .ref nso, .ref nsi, .ref nit, .ref nsh, .ref nsf, .ref nss, .ref nrc, .int (nI jr16360), .int 6, .int (nI jno), .int x6335, .int x6336, .int ip16361])), (nrc, .inl (G.2.1, 30, .inl gtrc6362))] H := hP
          have hD : va_D A [(nw, .inl (G.2.1, 1662, .inl fnw)), (nsh, .inl (G.2.1, 4, .inl fnsh)), (nsf, .inl (G.2.1, 4, .inl fnsf)), (h0, .inr (12, [.ref nw, .ref nk, .int mhasKept, .ref nt, .int mtaped, .ref nr, .int mrowMany, .int mroundOf, .int mroundFrom, .int mouts, .ref nm, .int mfromHour, .int mtoHour, .ref ns, .int mfrom, .int mto, .int msort, .int misFault, .int mdeep, .int mcoded, .int mlines, .ref nl, .ref nc, .ref nF, .ref np, .ref ntr, .ref nb, .int mbestCost, .ref nso, .ref nsi, .ref nit, .ref nsh, .ref nsf, .ref nss, .ref nrc, .int (nI jr16360), .int 6, .int (nI jno), .int x6335, .int x6336, .int ip16361])), (nrc, .inl (G.2.1, 30, .inl gtrc6362))] := hD
          obtain ⟨hr6358, w6363⟩ := hr6358
          refine lv_istore (lv' := [(7, .int r6358), (6, .int 0), (5, .int 0), (4, .int 6), (0, .ref h0), (1, .int (nI jt)), (2, .int 3), (3, .int x3)]) hx hb dX12_deal_208 hl (by decide) rfl (fun ls hl => ?_)
          refine lv_aload_n hx hb dX12_deal_210 rfl (lv_at hl 4 rfl) ?_
          refine gf_X12_380 hC rfl hK hP 3 rfl rfl dX12_deal_211 ?_
          refine lv_if_eq (tgt := 222) hx hb dX12_deal_214 (by decide) (fun c_214_6364 => ?_) (fun c_214_6364 => ?_)
          · refine lv_iload hx hb dX12_deal_222 (lv_at hl 0 rfl) ?_
            exact RI (v := r6358) hC hP hD hS [3, 0, 1, 2, 4] (jr16360, 6, nI jno, x6335, x6336, ip16361, gtrc6362) rfl rfl (by decide) (⟨trivial, by omega⟩) rfl dX12_deal_224
          · refine lv_bipush (v := (-15)) hx hb dX12_deal_217 (by decide) ?_
            refine lv_goto (tgt := 224) hx hb dX12_deal_219 (by decide) ?_
            exact RI (v := (-15)) hC hP hD hS [3, 0, 1, 2, 4] (jr16360, 6, nI jno, x6335, x6336, ip16361, gtrc6362) rfl rfl (by decide) (⟨trivial, by omega⟩) rfl dX12_deal_224
    · refine lv_if_ne (tgt := 23) hx hb dX12_deal_16 (by decide) (fun c9 => absurd (by decide) c9) (fun _ => ?_)
      refine lv_iconst (v := (-1)) hx hb dX12_deal_19 (by decide) ?_
      refine lv_goto (tgt := 28) hx hb dX12_deal_20 (by decide) ?_
      refine lv_istore (lv' := [(4, .int (-1)), (0, .ref h0), (1, .int x1), (2, .int x2), (3, .int x3)]) hx hb dX12_deal_28 hl (by decide) rfl (fun ls hl => ?_)
      refine lv_iload hx hb dX12_deal_30 (lv_at hl 0 rfl) ?_
      refine lv_if_ge (tgt := 37) hx hb dX12_deal_32 (by decide) (fun c9 => absurd c9 (by decide)) (fun _ => ?_)
      refine lv_iconst (v := 0) hx hb dX12_deal_35 (by decide) ?_
      exact RI (v := 0) hC hP hD hS [0, 1, 2, 3, 4] (0, mdealer, mnumber, mwhose, msize, misParted, fnrc) rfl rfl (by decide) (⟨trivial, by omega⟩) rfl dX12_deal_36
  · refine lv_if_eq (tgt := 19) hx hb dX12_deal_9 (by decide) (fun _ => ?_) (fun c9 => absurd (by decide) c9)
    refine lv_iconst (v := (-1)) hx hb dX12_deal_19 (by decide) ?_
    refine lv_goto (tgt := 28) hx hb dX12_deal_20 (by decide) ?_
    refine lv_istore (lv' := [(4, .int (-1)), (0, .ref h0), (1, .int x1), (2, .int x2), (3, .int x3)]) hx hb dX12_deal_28 hl (by decide) rfl (fun ls hl => ?_)
    refine lv_iload hx hb dX12_deal_30 (lv_at hl 0 rfl) ?_
    refine lv_if_ge (tgt := 37) hx hb dX12_deal_32 (by decide) (fun c9 => absurd c9 (by decide)) (fun _ => ?_)
    refine lv_iconst (v := 0) hx hb dX12_deal_35 (by decide) ?_
    exact RI (v := 0) hC hP hD hS [0, 1, 2, 3, 4] (0, mdealer, mnumber, mwhose, msize, misParted, fnrc) rfl rfl (by decide) (⟨trivial, by omega⟩) rfl dX12_deal_36
set_option maxHeartbeats 4000000 in
set_option maxRecDepth 100000 in
theorem r_trace (l : Launch) (G : GG) (h0 : Nat) (x1 : Int32) (nw : Nat) (nk : Nat) (mhasKept : Int32) (nt : Nat) (mtaped : Int32) (nr : Nat) (mrowMany : Int32) (mroundOf : Int32) (mroundFrom : Int32) (mouts : Int32) (nm : Nat) (mfromHour : Int32) (mtoHour : Int32) (ns : Nat) (mfrom : Int32) (mto : Int32) (msort : Int32) (misFault : Int32) (mdeep : Int32) (mcoded : Int32) (mlines : Int32) (nl : Nat) (nc : Nat) (nF : Nat) (np : Nat) (ntr : Nat) (nb : Nat) (mbestCost : Int32) (nso : Nat) (nsi : Nat) (nit : Nat) (nsh : Nat) (nsf : Nat) (nss : Nat) (nrc : Nat) (jr : Nat) (mdealer : Int32) (mnumber : Int32) (mwhose : Int32) (msize : Int32) (misParted : Int32) (fnrc : Nat → Int32) (hjr : jr ≤ 30) : MP l G yX12_trace cX12_trace 2 (some .int) 2 [.ref h0, .int x1] [(h0, .inr (12, [.ref nw, .ref nk, .int mhasKept, .ref nt, .int mtaped, .ref nr, .int mrowMany, .int mroundOf, .int mroundFrom, .int mouts, .ref nm, .int mfromHour, .int mtoHour, .ref ns, .int mfrom, .int mto, .int msort, .int misFault, .int mdeep, .int mcoded, .int mlines, .ref nl, .ref nc, .ref nF, .ref np, .ref ntr, .ref nb, .int mbestCost, .ref nso, .ref nsi, .ref nit, .ref nsh, .ref nsf, .ref nss, .ref nrc, .int (nI jr), .int mdealer, .int mnumber, .int mwhose, .int msize, .int misParted])), (nrc, .inl (G.2.1, 30, .inl fnrc))] (fun r : Int32 => True) := by
  refine MP.start (by decide +kernel) (Nat.le_of_ble_eq_true rfl) ?_
  intro p e s m below meth c ls hC hK hP hD hl
  have hl : lv_has ls 2 [(0, .ref h0), (1, .int x1)] := hl
  obtain ⟨hx, hb, hr, hml, hB, hown, hlocks, hnm⟩ := id hC
  refine lv_iload_n hx hb dX12_trace_0 rfl (lv_at hl 1 rfl) ?_
  refine lv_iconst (v := 0) hx hb dX12_trace_1 (by decide) ?_
  refine lv_aload_n hx hb dX12_trace_2 rfl (lv_at hl 0 rfl) ?_
  refine gf_X12_351 hC rfl hK hP 0 rfl rfl dX12_trace_3 ?_
  refine lv_iconst (v := 1) hx hb dX12_trace_6 (by decide) ?_
  refine lv_isub hx hb dX12_trace_7 ?_
  refine eqi (x1 := (nI jr) - 1) (rfl) ?_
  refine pS hC hK hl (m_within l G x1 0 ((nI jr) - 1)) si_X12_84 rfl rfl (Nat.le_of_ble_eq_true rfl) ⟨Nat.le_of_ble_eq_true rfl, Nat.le_of_ble_eq_true rfl⟩ ⟨by first | exact Nat.le_of_ble_eq_true rfl | exact Nat.zero_le _, by first | exact Nat.le_of_ble_eq_true rfl | exact Nat.zero_le _⟩ dX12_trace_8 (fun r6365 hr6365 => ?_)
  rcases hr6365 with ⟨rfl, a6366⟩ | ⟨rfl, a6366⟩
  · refine lv_if_eq (tgt := 23) hx hb dX12_trace_11 (by decide) (fun c9 => absurd c9 (by decide)) (fun _ => ?_)
    obtain ⟨ji, hji, rfl⟩ := Hs_nat (by omega) ((WiHs (by omega)).mp a6366)
    refine lv_aload_n hx hb dX12_trace_14 rfl (lv_at hl 0 rfl) ?_
    refine gf_X12_81 hC rfl hK hP 0 rfl rfl dX12_trace_15 ?_
    refine lv_iload_n hx hb dX12_trace_18 rfl (lv_at hl 1 rfl) ?_
    refine ald hC hK hP 1 rfl (vp_in_nI (by omega) (by omega)) (k := ji) (nI_clamp (by omega)) (v := fnrc ji) rfl dX12_trace_19 ?_
    refine lv_topi (fun x6367 ex6367 => ?_)
    refine lv_goto (tgt := 25) hx hb dX12_trace_20 (by decide) ?_
    exact RP (v := x6367) hC (trivial) rfl dX12_trace_25
  · refine lv_if_eq (tgt := 23) hx hb dX12_trace_11 (by decide) (fun _ => ?_) (fun c9 => absurd (by decide) c9)
    refine lv_bipush (v := (-3)) hx hb dX12_trace_23 (by decide) ?_
    exact RP (v := (-3)) hC (trivial) rfl dX12_trace_25
set_option maxHeartbeats 4000000 in
set_option maxRecDepth 100000 in
theorem r_many (l : Launch) (G : GG) (h0 : Nat) (x1 : Int32) (nw : Nat) (nk : Nat) (mhasKept : Int32) (nt : Nat) (mtaped : Int32) (nr : Nat) (mrowMany : Int32) (mroundOf : Int32) (mroundFrom : Int32) (mouts : Int32) (nm : Nat) (mfromHour : Int32) (mtoHour : Int32) (ns : Nat) (mfrom : Int32) (mto : Int32) (msort : Int32) (misFault : Int32) (mdeep : Int32) (mcoded : Int32) (mlines : Int32) (nl : Nat) (nc : Nat) (nF : Nat) (np : Nat) (ntr : Nat) (nb : Nat) (mbestCost : Int32) (nso : Nat) (nsi : Nat) (nit : Nat) (nsh : Nat) (nsf : Nat) (nss : Nat) (nrc : Nat) (mtraced : Int32) (mdealer : Int32) (mnumber : Int32) (mwhose : Int32) (msize : Int32) (misParted : Int32) (fnw : Nat → Int32) (fnm : Nat → Int32) (fns : Nat → Int32) (fnp : Nat → Int32) (hN : NI fnw) (hV : VI fnw) (hM : MB fnm) : MI l G yX12_many cX12_many 4 (some .int) 10 0 0 [.ref h0, .int x1] [(h0, .inr (12, [.ref nw, .ref nk, .int mhasKept, .ref nt, .int mtaped, .ref nr, .int mrowMany, .int mroundOf, .int mroundFrom, .int mouts, .ref nm, .int mfromHour, .int mtoHour, .ref ns, .int mfrom, .int mto, .int msort, .int misFault, .int mdeep, .int mcoded, .int mlines, .ref nl, .ref nc, .ref nF, .ref np, .ref ntr, .ref nb, .int mbestCost, .ref nso, .ref nsi, .ref nit, .ref nsh, .ref nsf, .ref nss, .ref nrc, .int mtraced, .int mdealer, .int mnumber, .int mwhose, .int msize, .int misParted])), (nw, .inl (G.2.1, 1662, .inl fnw)), (nm, .inl (G.2.1, 36, .inl fnm)), (ns, .inl (G.2.1, 8, .inl fns)), (np, .inl (G.2.1, 100, .inl fnp))] (fun (r : Int32) (u : Int32 × Int32 × (Nat → Int32) × (Nat → Int32) × (Nat → Int32)) => (True) ∧ (MB u.2.2.1)) (fun u : Int32 × Int32 × (Nat → Int32) × (Nat → Int32) × (Nat → Int32) => [(h0, .inr (12, [.ref nw, .ref nk, .int mhasKept, .ref nt, .int mtaped, .ref nr, .int mrowMany, .int mroundOf, .int mroundFrom, .int mouts, .ref nm, .int u.1, .int u.2.1, .ref ns, .int mfrom, .int mto, .int msort, .int misFault, .int mdeep, .int mcoded, .int mlines, .ref nl, .ref nc, .ref nF, .ref np, .ref ntr, .ref nb, .int mbestCost, .ref nso, .ref nsi, .ref nit, .ref nsh, .ref nsf, .ref nss, .ref nrc, .int mtraced, .int mdealer, .int mnumber, .int mwhose, .int msize, .int misParted])), (nw, .inl (G.2.1, 1662, .inl fnw)), (nm, .inl (G.2.1, 36, .inl u.2.2.1)), (ns, .inl (G.2.1, 8, .inl u.2.2.2.1)), (np, .inl (G.2.1, 100, .inl u.2.2.2.2))]) := by
  refine MI.start (by decide +kernel) (Nat.le_of_ble_eq_true rfl) ?_
  intro p e s m below meth c A ls hC hK hP hD hS hA hl
  have hl : lv_has ls 4 [(0, .ref h0), (1, .int x1)] := hl
  obtain ⟨hx, hb, hr, hml, hB, hown, hlocks, hnm⟩ := id hC
  obtain ⟨k9, hk9, ek9⟩ := NI.nat hN (i := 9) (B := 12) (by decide +kernel) (by decide)
  refine lv_iload_n hx hb dX12_many_0 rfl (lv_at hl 1 rfl) ?_
  by_cases c_1_6368 : x1 = 0
  · refine lv_tableIn (tgt := 76) hx hb dX12_many_1 (by rw [c_1_6368]; decide) (by rw [c_1_6368]; decide) (by rw [c_1_6368]; rfl) (by decide) ?_
    refine lv_aload_n hx hb dX12_many_76 rfl (lv_at hl 0 rfl) ?_
    refine gf_X12_9 hC rfl hK hP 0 rfl rfl dX12_many_77 ?_
    refine lv_iconst (v := 0) hx hb dX12_many_80 (by decide) ?_
    refine ald hC hK hP 1 rfl (vin (by decide +kernel)) (k := 0) (by decide +kernel) (v := fnw 0) (rfl) dX12_many_81 ?_
    exact RI (v := fnw 0) hC hP hD hS [0, 1, 2, 3, 4] (mfromHour, mtoHour, fnm, fns, fnp) rfl rfl (by decide) (⟨trivial, by first | assumption | exact hM⟩) rfl dX12_many_82
  by_cases c_1_6369 : x1 = 1
  · refine lv_tableIn (tgt := 83) hx hb dX12_many_1 (by rw [c_1_6369]; decide) (by rw [c_1_6369]; decide) (by rw [c_1_6369]; rfl) (by decide) ?_
    refine lv_aload_n hx hb dX12_many_83 rfl (lv_at hl 0 rfl) ?_
    refine gf_X12_9 hC rfl hK hP 0 rfl rfl dX12_many_84 ?_
    refine lv_iconst (v := 4) hx hb dX12_many_87 (by decide) ?_
    refine ald hC hK hP 1 rfl (vin (by decide +kernel)) (k := 4) (by decide +kernel) (v := fnw 4) (rfl) dX12_many_88 ?_
    exact RI (v := fnw 4) hC hP hD hS [0, 1, 2, 3, 4] (mfromHour, mtoHour, fnm, fns, fnp) rfl rfl (by decide) (⟨trivial, by first | assumption | exact hM⟩) rfl dX12_many_89
  by_cases c_1_6370 : x1 = 2
  · refine lv_tableIn (tgt := 90) hx hb dX12_many_1 (by rw [c_1_6370]; decide) (by rw [c_1_6370]; decide) (by rw [c_1_6370]; rfl) (by decide) ?_
    refine lv_aload_n hx hb dX12_many_90 rfl (lv_at hl 0 rfl) ?_
    refine gf_X12_9 hC rfl hK hP 0 rfl rfl dX12_many_91 ?_
    refine lv_iconst (v := 5) hx hb dX12_many_94 (by decide) ?_
    refine ald hC hK hP 1 rfl (vin (by decide +kernel)) (k := 5) (by decide +kernel) (v := fnw 5) (rfl) dX12_many_95 ?_
    exact RI (v := fnw 5) hC hP hD hS [0, 1, 2, 3, 4] (mfromHour, mtoHour, fnm, fns, fnp) rfl rfl (by decide) (⟨trivial, by first | assumption | exact hM⟩) rfl dX12_many_96
  by_cases c_1_6371 : x1 = 3
  · refine lv_tableIn (tgt := 97) hx hb dX12_many_1 (by rw [c_1_6371]; decide) (by rw [c_1_6371]; decide) (by rw [c_1_6371]; rfl) (by decide) ?_
    refine lv_aload_n hx hb dX12_many_97 rfl (lv_at hl 0 rfl) ?_
    refine pV hC hK hl hP hD (m_inView l G h0 nw nk mhasKept nt mtaped nr mrowMany mroundOf mroundFrom mouts nm mfromHour mtoHour ns mfrom mto msort misFault mdeep mcoded mlines nl nc nF np ntr nb mbestCost nso nsi nit nsh nsf nss nrc mtraced mdealer mnumber mwhose msize misParted fnw (hN)) si_X12_107 [0, 1] rfl rfl (by decide) rfl rfl rfl rfl rfl (Nat.le_of_ble_eq_true rfl) ⟨Nat.le_of_ble_eq_true rfl, Nat.le_of_ble_eq_true rfl⟩ ⟨by first | exact Nat.le_of_ble_eq_true rfl | exact Nat.zero_le _, by first | exact Nat.le_of_ble_eq_true rfl | exact Nat.zero_le _⟩ dX12_many_98 (fun r6372 hr6372 => ?_)
    refine pS hC hK hl (m_bits l G r6372) si_X12_110 rfl rfl (Nat.le_of_ble_eq_true rfl) ⟨Nat.le_of_ble_eq_true rfl, Nat.le_of_ble_eq_true rfl⟩ ⟨by first | exact Nat.le_of_ble_eq_true rfl | exact Nat.zero_le _, by first | exact Nat.le_of_ble_eq_true rfl | exact Nat.zero_le _⟩ dX12_many_101 (fun r6373 hr6373 => ?_)
    exact RI (v := r6373) hC hP hD hS [0, 1, 2, 3, 4] (mfromHour, mtoHour, fnm, fns, fnp) rfl rfl (by decide) (⟨trivial, by first | assumption | exact hM⟩) rfl dX12_many_104
  by_cases c_1_6374 : x1 = 4
  · refine lv_tableIn (tgt := 105) hx hb dX12_many_1 (by rw [c_1_6374]; decide) (by rw [c_1_6374]; decide) (by rw [c_1_6374]; rfl) (by decide) ?_
    refine lv_aload_n hx hb dX12_many_105 rfl (lv_at hl 0 rfl) ?_
    refine gf_X12_9 hC rfl hK hP 0 rfl rfl dX12_many_106 ?_
    refine lv_bipush (v := 6) hx hb dX12_many_109 (by decide) ?_
    refine ald hC hK hP 1 rfl (vin (by decide +kernel)) (k := 6) (by decide +kernel) (v := fnw 6) (rfl) dX12_many_111 ?_
    exact RI (v := fnw 6) hC hP hD hS [0, 1, 2, 3, 4] (mfromHour, mtoHour, fnm, fns, fnp) rfl rfl (by decide) (⟨trivial, by first | assumption | exact hM⟩) rfl dX12_many_112
  by_cases c_1_6375 : x1 = 5
  · refine lv_tableIn (tgt := 113) hx hb dX12_many_1 (by rw [c_1_6375]; decide) (by rw [c_1_6375]; decide) (by rw [c_1_6375]; rfl) (by decide) ?_
    refine lv_aload_n hx hb dX12_many_113 rfl (lv_at hl 0 rfl) ?_
    refine gf_X12_9 hC rfl hK hP 0 rfl rfl dX12_many_114 ?_
    refine lv_bipush (v := 7) hx hb dX12_many_117 (by decide) ?_
    refine ald hC hK hP 1 rfl (vin (by decide +kernel)) (k := 7) (by decide +kernel) (v := fnw 7) (rfl) dX12_many_119 ?_
    exact RI (v := fnw 7) hC hP hD hS [0, 1, 2, 3, 4] (mfromHour, mtoHour, fnm, fns, fnp) rfl rfl (by decide) (⟨trivial, by first | assumption | exact hM⟩) rfl dX12_many_120
  by_cases c_1_6376 : x1 = 6
  · refine lv_tableIn (tgt := 121) hx hb dX12_many_1 (by rw [c_1_6376]; decide) (by rw [c_1_6376]; decide) (by rw [c_1_6376]; rfl) (by decide) ?_
    refine lv_aload_n hx hb dX12_many_121 rfl (lv_at hl 0 rfl) ?_
    refine gf_X12_9 hC rfl hK hP 0 rfl rfl dX12_many_122 ?_
    refine lv_bipush (v := 8) hx hb dX12_many_125 (by decide) ?_
    refine ald hC hK hP 1 rfl (vin (by decide +kernel)) (k := 8) (by decide +kernel) (v := fnw 8) (rfl) dX12_many_127 ?_
    exact RI (v := fnw 8) hC hP hD hS [0, 1, 2, 3, 4] (mfromHour, mtoHour, fnm, fns, fnp) rfl rfl (by decide) (⟨trivial, by first | assumption | exact hM⟩) rfl dX12_many_128
  by_cases c_1_6377 : x1 = 7
  · refine lv_tableIn (tgt := 129) hx hb dX12_many_1 (by rw [c_1_6377]; decide) (by rw [c_1_6377]; decide) (by rw [c_1_6377]; rfl) (by decide) ?_
    refine lv_aload_n hx hb dX12_many_129 rfl (lv_at hl 0 rfl) ?_
    refine lv_iconst (v := (-1)) hx hb dX12_many_130 (by decide) ?_
    refine pV hC hK hl hP hD (m_saidBy l G h0 (-1) nw nk mhasKept nt mtaped nr mrowMany mroundOf mroundFrom mouts nm mfromHour mtoHour ns mfrom mto msort misFault mdeep mcoded mlines nl nc nF np ntr nb mbestCost nso nsi nit nsh nsf nss nrc mtraced mdealer mnumber mwhose msize misParted fnw (hN)) si_X12_127 [0, 1] rfl rfl (by decide) rfl rfl rfl rfl rfl (Nat.le_of_ble_eq_true rfl) ⟨Nat.le_of_ble_eq_true rfl, Nat.le_of_ble_eq_true rfl⟩ ⟨by first | exact Nat.le_of_ble_eq_true rfl | exact Nat.zero_le _, by first | exact Nat.le_of_ble_eq_true rfl | exact Nat.zero_le _⟩ dX12_many_131 (fun r6378 hr6378 => ?_)
    exact RI (v := r6378) hC hP hD hS [0, 1, 2, 3, 4] (mfromHour, mtoHour, fnm, fns, fnp) rfl rfl (by decide) (⟨trivial, by first | assumption | exact hM⟩) rfl dX12_many_134
  by_cases c_1_6379 : x1 = 8
  · refine lv_tableIn (tgt := 135) hx hb dX12_many_1 (by rw [c_1_6379]; decide) (by rw [c_1_6379]; decide) (by rw [c_1_6379]; rfl) (by decide) ?_
    refine lv_aload_n hx hb dX12_many_135 rfl (lv_at hl 0 rfl) ?_
    refine gf_X12_9 hC rfl hK hP 0 rfl rfl dX12_many_136 ?_
    refine lv_bipush (v := 9) hx hb dX12_many_139 (by decide) ?_
    refine ald hC hK hP 1 rfl (vin (by decide +kernel)) (k := 9) (by decide +kernel) (v := nI k9) (ek9) dX12_many_141 ?_
    exact RI (v := nI k9) hC hP hD hS [0, 1, 2, 3, 4] (mfromHour, mtoHour, fnm, fns, fnp) rfl rfl (by decide) (⟨trivial, by first | assumption | exact hM⟩) rfl dX12_many_142
  by_cases c_1_6380 : x1 = 9
  · refine lv_tableIn (tgt := 143) hx hb dX12_many_1 (by rw [c_1_6380]; decide) (by rw [c_1_6380]; decide) (by rw [c_1_6380]; rfl) (by decide) ?_
    refine lv_iconst (v := 0) hx hb dX12_many_143 (by decide) ?_
    refine lv_istore_n (lv' := [(2, .int 0), (0, .ref h0), (1, .int x1)]) hx hb dX12_many_144 rfl hl (by decide) rfl (fun ls hl => ?_)
    refine lv_iconst (v := 0) hx hb dX12_many_145 (by decide) ?_
    refine lv_istore_n (lv' := [(3, .int 0), (2, .int 0), (0, .ref h0), (1, .int x1)]) hx hb dX12_many_146 rfl hl (by decide) rfl (fun ls hl => ?_)
    have keyP : ∀ (nP kP : Nat) (nn : Int32) (vfh : Int32) (vth : Int32) (vA : Nat → Int32) (vS : Nat → Int32) (vR : Nat → Int32) (H : Heap) (locs : List Loc) (ls : Array Slot), kP + nP = k9 → (MB vA) → va_P G.1 vwCl [(h0, .inr (12, [.ref nw, .ref nk, .int mhasKept, .ref nt, .int mtaped, .ref nr, .int mrowMany, .int mroundOf, .int mroundFrom, .int mouts, .ref nm, .int vfh, .int vth, .ref ns, .int mfrom, .int mto, .int msort, .int misFault, .int mdeep, .int mcoded, .int mlines, .ref nl, .ref nc, .ref nF, .ref np, .ref ntr, .ref nb, .int mbestCost, .ref nso, .ref nsi, .ref nit, .ref nsh, .ref nsf, .ref nss, .ref nrc, .int mtraced, .int mdealer, .int mnumber, .int mwhose, .int msize, .int misParted])), (nw, .inl (G.2.1, 1662, .inl fnw)), (nm, .inl (G.2.1, 36, .inl vA)), (ns, .inl (G.2.1, 8, .inl vS)), (np, .inl (G.2.1, 100, .inl vR))] H → va_D A [(h0, .inr (12, [.ref nw, .ref nk, .int mhasKept, .ref nt, .int mtaped, .ref nr, .int mrowMany, .int mroundOf, .int mroundFrom, .int mouts, .ref nm, .int vfh, .int vth, .ref ns, .int mfrom, .int mto, .int msort, .int misFault, .int mdeep, .int mcoded, .int mlines, .ref nl, .ref nc, .ref nF, .ref np, .ref ntr, .ref nb, .int mbestCost, .ref nso, .ref nsi, .ref nit, .ref nsh, .ref nsf, .ref nss, .ref nrc, .int mtraced, .int mdealer, .int mnumber, .int mwhose, .int msize, .int misParted])), (nw, .inl (G.2.1, 1662, .inl fnw)), (nm, .inl (G.2.1, 36, .inl vA)), (ns, .inl (G.2.1, 8, .inl vS)), (np, .inl (G.2.1, 100, .inl vR))] → va_S A s.heap H locs → lv_has ls 4 [(3, .int (nI kP)), (2, .int nn), (0, .ref h0), (1, .int x1)] → W p l e (RM 10 0 0) s m ([.ref h0, .int x1] : List Value).toArray below meth c H locs 0 0 (MQ below (QI G (fun (r : Int32) (u : Int32 × Int32 × (Nat → Int32) × (Nat → Int32) × (Nat → Int32)) => (True) ∧ (MB u.2.2.1)) (fun u : Int32 × Int32 × (Nat → Int32) × (Nat → Int32) × (Nat → Int32) => [(h0, .inr (12, [.ref nw, .ref nk, .int mhasKept, .ref nt, .int mtaped, .ref nr, .int mrowMany, .int mroundOf, .int mroundFrom, .int mouts, .ref nm, .int u.1, .int u.2.1, .ref ns, .int mfrom, .int mto, .int msort, .int misFault, .int mdeep, .int mcoded, .int mlines, .ref nl, .ref nc, .ref nF, .ref np, .ref ntr, .ref nb, .int mbestCost, .ref nso, .ref nsi, .ref nit, .ref nsh, .ref nsf, .ref nss, .ref nrc, .int mtraced, .int mdealer, .int mnumber, .int mwhose, .int msize, .int misParted])), (nw, .inl (G.2.1, 1662, .inl fnw)), (nm, .inl (G.2.1, 36, .inl u.2.2.1)), (ns, .inl (G.2.1, 8, .inl u.2.2.2.1)), (np, .inl (G.2.1, 100, .inl u.2.2.2.2))]) A) ([.ref h0, .int x1] : List Value).toArray s 0 0 A) (F0 m 147 ls []) := by
      intro nP
      induction nP with
      | zero =>
        intro kP nn vfh vth vA vS vR H locs ls hkP hvA hP hD hS hl
        obtain rfl : k9 = kP := by omega
        have hl : lv_has ls 4 [(3, .int (nI k9)), (2, .int nn), (0, .ref h0), (1, .int x1)] := hl
        refine lv_iload_n hx hb dX12_many_147 rfl (lv_at hl 0 rfl) ?_
        refine lv_aload_n hx hb dX12_many_148 rfl (lv_at hl 2 rfl) ?_
        refine gf_X12_9 hC rfl hK hP 0 rfl rfl dX12_many_149 ?_
        refine lv_bipush (v := 9) hx hb dX12_many_152 (by decide) ?_
        refine ald hC hK hP 1 rfl (vin (by decide +kernel)) (k := 9) (by decide +kernel) (v := nI k9) (ek9) dX12_many_154 ?_
        refine lv_icmp_ge (tgt := 180) hx hb dX12_many_155 (by decide) (fun _ => ?_) (fun c9 => absurd (Int32.le_refl _) c9)
        refine lv_iload_n hx hb dX12_many_180 rfl (lv_at hl 1 rfl) ?_
        exact RI (v := nn) hC hP hD hS [0, 1, 2, 3, 4] (vfh, vth, vA, vS, vR) rfl rfl (by decide) (⟨trivial, by first | assumption | exact hM⟩) rfl dX12_many_181
      | succ nP ihP =>
        intro kP nn vfh vth vA vS vR H locs ls hkP hvA hP hD hS hl
        refine lv_iload_n hx hb dX12_many_147 rfl (lv_at hl 0 rfl) ?_
        refine lv_aload_n hx hb dX12_many_148 rfl (lv_at hl 2 rfl) ?_
        refine gf_X12_9 hC rfl hK hP 0 rfl rfl dX12_many_149 ?_
        refine lv_bipush (v := 9) hx hb dX12_many_152 (by decide) ?_
        refine ald hC hK hP 1 rfl (vin (by decide +kernel)) (k := 9) (by decide +kernel) (v := nI k9) (ek9) dX12_many_154 ?_
        refine lv_icmp_ge (tgt := 180) hx hb dX12_many_155 (by decide) (fun c9 => absurd c9 (nI_ge (a := kP) (b := k9) (by omega) (by omega))) (fun _ => ?_)
        refine lv_iload_n hx hb dX12_many_158 rfl (lv_at hl 1 rfl) ?_
        refine lv_aload_n hx hb dX12_many_159 rfl (lv_at hl 2 rfl) ?_
        refine lv_iload_n hx hb dX12_many_160 rfl (lv_at hl 0 rfl) ?_
        refine iV (wr := []) hC hK hl hP hD hS hA (m_stands l G h0 kP nw nk mhasKept nt mtaped nr mrowMany mroundOf mroundFrom mouts nm vfh vth ns mfrom mto msort misFault mdeep mcoded mlines nl nc nF np ntr nb mbestCost nso nsi nit nsh nsf nss nrc mtraced mdealer mnumber mwhose msize misParted fnw vA vS vR (by omega) (hN) (hV) (hvA)) si_X12_305 [0, 1, 2, 3, 4] [] rfl rfl (by decide) rfl (by decide) (by decide) rfl rfl rfl rfl rfl (Nat.le_of_ble_eq_true rfl) ⟨Nat.le_of_ble_eq_true rfl, Nat.le_of_ble_eq_true rfl⟩ ⟨Nat.le_of_ble_eq_true rfl, Nat.le_of_ble_eq_true rfl⟩ dX12_many_161 (fun r6381 u6382 H locs hr6381 hP hD hS => ?_)
        obtain ⟨fh16383, th16384, gnm6385, gns6386, gnp6387⟩ := u6382
        try dsimp only at hr6381
        have hP : va_P G.1 vwCl [(h0, .inr (12, [.ref nw, .ref nk, .int mhasKept, .ref nt, .int mtaped, .ref nr, .int mrowMany, .int mroundOf, .int mroundFrom, .int mouts, .ref nm, .int fh16383, .int th16384, .ref ns, .int mfrom, .int mto, .int msort, .int misFault, .int mdeep, .int mcoded, .int mlines, .ref nl, .ref nc, .ref nF, .ref np, .ref ntr, .ref nb, .int mbestCost, .ref nso, .ref nsi, .ref nit, .ref nsh, .ref nsf, .ref nss, .ref nrc, .int mtraced, .int mdealer, .int mnumber, .int mwhose, .int msize, .int misParted])), (nw, .inl (G.2.1, 1662, .inl fnw)), (nm, .inl (G.2.1, 36, .inl gnm6385)), (ns, .inl (G.2.1, 8, .inl gns6386)), (np, .inl (G.2.1, 100, .inl gnp6387))] H := hP
        have hD : va_D A [(h0, .inr (12, [.ref nw, .ref nk, .int mhasKept, .ref nt, .int mtaped, .ref nr, .int mrowMany, .int mroundOf, .int mroundFrom, .int mouts, .ref nm, .int fh16383, .int th16384, .ref ns, .int mfrom, .int mto, .int msort, .int misFault, .int mdeep, .int mcoded, .int mlines, .ref nl, .ref nc, .ref nF, .ref np, .ref ntr, .ref nb, .int mbestCost, .ref nso, .ref nsi, .ref nit, .ref nsh, .ref nsf, .ref nss, .ref nrc, .int mtraced, .int mdealer, .int mnumber, .int mwhose, .int msize, .int misParted])), (nw, .inl (G.2.1, 1662, .inl fnw)), (nm, .inl (G.2.1, 36, .inl gnm6385)), (ns, .inl (G.2.1, 8, .inl gns6386)), (np, .inl (G.2.1, 100, .inl gnp6387))] := hD
        obtain ⟨hr6381, w6388⟩ := hr6381
        rcases hr6381 with rfl | rfl
        · refine lv_if_eq (tgt := 171) hx hb dX12_many_164 (by decide) (fun c9 => absurd c9 (by decide)) (fun _ => ?_)
          refine lv_iconst (v := 1) hx hb dX12_many_167 (by decide) ?_
          refine lv_goto (tgt := 172) hx hb dX12_many_168 (by decide) ?_
          refine lv_iadd hx hb dX12_many_172 ?_
          refine lv_istore_n (lv' := [(2, .int (nn + 1)), (3, .int (nI kP)), (0, .ref h0), (1, .int x1)]) hx hb dX12_many_173 rfl hl (by decide) rfl (fun ls hl => ?_)
          refine lv_iinc (v := nI (kP + 1)) (lv' := [(3, .int (nI (kP + 1))), (2, .int (nn + 1)), (0, .ref h0), (1, .int x1)]) hx hb dX12_many_174 hl (k := 1) rfl (nI_1 _) (by decide) rfl (fun ls hl => ?_)
          refine lv_goto (tgt := 147) hx hb dX12_many_177 (by decide) ?_
          exact ihP (kP + 1) (nn + 1) fh16383 th16384 gnm6385 gns6386 gnp6387 _ _ _ (by omega) (by first | assumption | exact Or.inl rfl | exact Or.inr rfl) hP hD hS (lv_sub hl [0, 1, 2, 3] rfl)
        · refine lv_if_eq (tgt := 171) hx hb dX12_many_164 (by decide) (fun _ => ?_) (fun c9 => absurd (by decide) c9)
          refine lv_iconst (v := 0) hx hb dX12_many_171 (by decide) ?_
          refine lv_iadd hx hb dX12_many_172 ?_
          refine lv_istore_n (lv' := [(2, .int (nn + 0)), (3, .int (nI kP)), (0, .ref h0), (1, .int x1)]) hx hb dX12_many_173 rfl hl (by decide) rfl (fun ls hl => ?_)
          refine lv_iinc (v := nI (kP + 1)) (lv' := [(3, .int (nI (kP + 1))), (2, .int (nn + 0)), (0, .ref h0), (1, .int x1)]) hx hb dX12_many_174 hl (k := 1) rfl (nI_1 _) (by decide) rfl (fun ls hl => ?_)
          refine lv_goto (tgt := 147) hx hb dX12_many_177 (by decide) ?_
          exact ihP (kP + 1) (nn + 0) fh16383 th16384 gnm6385 gns6386 gnp6387 _ _ _ (by omega) (by first | assumption | exact Or.inl rfl | exact Or.inr rfl) hP hD hS (lv_sub hl [0, 1, 2, 3] rfl)
    exact keyP k9 0 0 mfromHour mtoHour fnm fns fnp _ _ _ (by omega) (by first | assumption | exact Or.inl rfl | exact Or.inr rfl) hP hD hS (lv_sub hl [0, 1, 2, 3] rfl)
  by_cases c_1_6390 : x1 = 10
  · refine lv_tableIn (tgt := 182) hx hb dX12_many_1 (by rw [c_1_6390]; decide) (by rw [c_1_6390]; decide) (by rw [c_1_6390]; rfl) (by decide) ?_
    refine lv_aload_n hx hb dX12_many_182 rfl (lv_at hl 0 rfl) ?_
    refine gf_X12_9 hC rfl hK hP 0 rfl rfl dX12_many_183 ?_
    refine lv_bipush (v := 10) hx hb dX12_many_186 (by decide) ?_
    refine ald hC hK hP 1 rfl (vin (by decide +kernel)) (k := 10) (by decide +kernel) (v := fnw 10) (rfl) dX12_many_188 ?_
    exact RI (v := fnw 10) hC hP hD hS [0, 1, 2, 3, 4] (mfromHour, mtoHour, fnm, fns, fnp) rfl rfl (by decide) (⟨trivial, by first | assumption | exact hM⟩) rfl dX12_many_189
  by_cases c_1_6391 : x1 = 11
  · refine lv_tableIn (tgt := 190) hx hb dX12_many_1 (by rw [c_1_6391]; decide) (by rw [c_1_6391]; decide) (by rw [c_1_6391]; rfl) (by decide) ?_
    refine lv_aload_n hx hb dX12_many_190 rfl (lv_at hl 0 rfl) ?_
    refine gf_X12_9 hC rfl hK hP 0 rfl rfl dX12_many_191 ?_
    refine lv_bipush (v := 11) hx hb dX12_many_194 (by decide) ?_
    refine ald hC hK hP 1 rfl (vin (by decide +kernel)) (k := 11) (by decide +kernel) (v := fnw 11) (rfl) dX12_many_196 ?_
    exact RI (v := fnw 11) hC hP hD hS [0, 1, 2, 3, 4] (mfromHour, mtoHour, fnm, fns, fnp) rfl rfl (by decide) (⟨trivial, by first | assumption | exact hM⟩) rfl dX12_many_197
  by_cases c_1_6392 : x1 = 12
  · refine lv_tableIn (tgt := 198) hx hb dX12_many_1 (by rw [c_1_6392]; decide) (by rw [c_1_6392]; decide) (by rw [c_1_6392]; rfl) (by decide) ?_
    refine lv_aload_n hx hb dX12_many_198 rfl (lv_at hl 0 rfl) ?_
    refine gf_X12_327 hC rfl hK hP 0 rfl rfl dX12_many_199 ?_
    exact RI (v := mrowMany) hC hP hD hS [0, 1, 2, 3, 4] (mfromHour, mtoHour, fnm, fns, fnp) rfl rfl (by decide) (⟨trivial, by first | assumption | exact hM⟩) rfl dX12_many_202
  by_cases c_1_6393 : x1 = 13
  · refine lv_tableIn (tgt := 203) hx hb dX12_many_1 (by rw [c_1_6393]; decide) (by rw [c_1_6393]; decide) (by rw [c_1_6393]; rfl) (by decide) ?_
    refine lv_aload_n hx hb dX12_many_203 rfl (lv_at hl 0 rfl) ?_
    refine gf_X12_206 hC rfl hK hP 0 rfl rfl dX12_many_204 ?_
    exact RI (v := mtaped) hC hP hD hS [0, 1, 2, 3, 4] (mfromHour, mtoHour, fnm, fns, fnp) rfl rfl (by decide) (⟨trivial, by first | assumption | exact hM⟩) rfl dX12_many_207
  by_cases c_1_6394 : x1 = 14
  · refine lv_tableIn (tgt := 208) hx hb dX12_many_1 (by rw [c_1_6394]; decide) (by rw [c_1_6394]; decide) (by rw [c_1_6394]; rfl) (by decide) ?_
    refine lv_aload_n hx hb dX12_many_208 rfl (lv_at hl 0 rfl) ?_
    refine gf_X12_351 hC rfl hK hP 0 rfl rfl dX12_many_209 ?_
    exact RI (v := mtraced) hC hP hD hS [0, 1, 2, 3, 4] (mfromHour, mtoHour, fnm, fns, fnp) rfl rfl (by decide) (⟨trivial, by first | assumption | exact hM⟩) rfl dX12_many_212
  refine lv_tableOut (tgt := 213) hx hb dX12_many_1 (by have q9 := sw_0_14 (x := x1); simp only [c_1_6368, c_1_6369, c_1_6370, c_1_6371, c_1_6374, c_1_6375, c_1_6376, c_1_6377, c_1_6379, c_1_6380, c_1_6390, c_1_6391, c_1_6392, c_1_6393, c_1_6394, not_false_eq_true, true_implies] at q9; exact q9) (by decide) ?_
  refine lv_iconst (v := (-1)) hx hb dX12_many_213 (by decide) ?_
  exact RI (v := (-1)) hC hP hD hS [0, 1, 2, 3, 4] (mfromHour, mtoHour, fnm, fns, fnp) rfl rfl (by decide) (⟨trivial, by first | assumption | exact hM⟩) rfl dX12_many_214
set_option maxHeartbeats 4000000 in
set_option maxRecDepth 100000 in
theorem w_keep (l : Launch) (G : GG) (h0 : Nat) (nw : Nat) (nk : Nat) (mhasKept : Int32) (nt : Nat) (mtaped : Int32) (nr : Nat) (mrowMany : Int32) (mroundOf : Int32) (mroundFrom : Int32) (mouts : Int32) (nm : Nat) (mfromHour : Int32) (mtoHour : Int32) (ns : Nat) (mfrom : Int32) (mto : Int32) (msort : Int32) (misFault : Int32) (mdeep : Int32) (mcoded : Int32) (mlines : Int32) (nl : Nat) (nc : Nat) (nF : Nat) (np : Nat) (ntr : Nat) (nb : Nat) (mbestCost : Int32) (nso : Nat) (nsi : Nat) (nit : Nat) (nsh : Nat) (nsf : Nat) (nss : Nat) (nrc : Nat) (mtraced : Int32) (mdealer : Int32) (mnumber : Int32) (mwhose : Int32) (msize : Int32) (misParted : Int32) (fnw : Nat → Int32) (fnk : Nat → Int32) (hN : NI fnw) (hV : VI fnw) : MI l G yX12_keep cX12_keep 2 (some .int) 1 0 0 [.ref h0] [(h0, .inr (12, [.ref nw, .ref nk, .int mhasKept, .ref nt, .int mtaped, .ref nr, .int mrowMany, .int mroundOf, .int mroundFrom, .int mouts, .ref nm, .int mfromHour, .int mtoHour, .ref ns, .int mfrom, .int mto, .int msort, .int misFault, .int mdeep, .int mcoded, .int mlines, .ref nl, .ref nc, .ref nF, .ref np, .ref ntr, .ref nb, .int mbestCost, .ref nso, .ref nsi, .ref nit, .ref nsh, .ref nsf, .ref nss, .ref nrc, .int mtraced, .int mdealer, .int mnumber, .int mwhose, .int msize, .int misParted])), (nw, .inl (G.2.1, 1662, .inl fnw)), (nk, .inl (G.2.1, 1662, .inl fnk))] (fun (r : Int32) (u : (Nat → Int32)) => (r = 1) ∧ (NI u ∧ VI u)) (fun u : (Nat → Int32) => [(h0, .inr (12, [.ref nw, .ref nk, .int 1, .ref nt, .int mtaped, .ref nr, .int mrowMany, .int mroundOf, .int mroundFrom, .int mouts, .ref nm, .int mfromHour, .int mtoHour, .ref ns, .int mfrom, .int mto, .int msort, .int misFault, .int mdeep, .int mcoded, .int mlines, .ref nl, .ref nc, .ref nF, .ref np, .ref ntr, .ref nb, .int mbestCost, .ref nso, .ref nsi, .ref nit, .ref nsh, .ref nsf, .ref nss, .ref nrc, .int mtraced, .int mdealer, .int mnumber, .int mwhose, .int msize, .int misParted])), (nw, .inl (G.2.1, 1662, .inl fnw)), (nk, .inl (G.2.1, 1662, .inl u))]) := by
  refine MI.start (by decide +kernel) (Nat.le_of_ble_eq_true rfl) ?_
  intro p e s m below meth c A ls hC hK hP hD hS hA hl
  have hl : lv_has ls 2 [(0, .ref h0)] := hl
  obtain ⟨hx, hb, hr, hml, hB, hown, hlocks, hnm⟩ := id hC
  refine lv_iconst (v := 0) hx hb dX12_keep_0 (by decide) ?_
  refine lv_istore_n (lv' := [(1, .int 0), (0, .ref h0)]) hx hb dX12_keep_1 rfl hl (by decide) rfl (fun ls hl => ?_)
  have keyP : ∀ (nP kP : Nat) (vK : Nat → Int32) (H : Heap) (locs : List Loc) (ls : Array Slot), kP + nP = 1662 → (AG kP fnw vK) → va_P G.1 vwCl [(h0, .inr (12, [.ref nw, .ref nk, .int mhasKept, .ref nt, .int mtaped, .ref nr, .int mrowMany, .int mroundOf, .int mroundFrom, .int mouts, .ref nm, .int mfromHour, .int mtoHour, .ref ns, .int mfrom, .int mto, .int msort, .int misFault, .int mdeep, .int mcoded, .int mlines, .ref nl, .ref nc, .ref nF, .ref np, .ref ntr, .ref nb, .int mbestCost, .ref nso, .ref nsi, .ref nit, .ref nsh, .ref nsf, .ref nss, .ref nrc, .int mtraced, .int mdealer, .int mnumber, .int mwhose, .int msize, .int misParted])), (nw, .inl (G.2.1, 1662, .inl fnw)), (nk, .inl (G.2.1, 1662, .inl vK))] H → va_D A [(h0, .inr (12, [.ref nw, .ref nk, .int mhasKept, .ref nt, .int mtaped, .ref nr, .int mrowMany, .int mroundOf, .int mroundFrom, .int mouts, .ref nm, .int mfromHour, .int mtoHour, .ref ns, .int mfrom, .int mto, .int msort, .int misFault, .int mdeep, .int mcoded, .int mlines, .ref nl, .ref nc, .ref nF, .ref np, .ref ntr, .ref nb, .int mbestCost, .ref nso, .ref nsi, .ref nit, .ref nsh, .ref nsf, .ref nss, .ref nrc, .int mtraced, .int mdealer, .int mnumber, .int mwhose, .int msize, .int misParted])), (nw, .inl (G.2.1, 1662, .inl fnw)), (nk, .inl (G.2.1, 1662, .inl vK))] → va_S A s.heap H locs → lv_has ls 2 [(1, .int (nI kP)), (0, .ref h0)] → W p l e (RM 1 0 0) s m ([.ref h0] : List Value).toArray below meth c H locs 0 0 (MQ below (QI G (fun (r : Int32) (u : (Nat → Int32)) => (r = 1) ∧ (NI u ∧ VI u)) (fun u : (Nat → Int32) => [(h0, .inr (12, [.ref nw, .ref nk, .int 1, .ref nt, .int mtaped, .ref nr, .int mrowMany, .int mroundOf, .int mroundFrom, .int mouts, .ref nm, .int mfromHour, .int mtoHour, .ref ns, .int mfrom, .int mto, .int msort, .int misFault, .int mdeep, .int mcoded, .int mlines, .ref nl, .ref nc, .ref nF, .ref np, .ref ntr, .ref nb, .int mbestCost, .ref nso, .ref nsi, .ref nit, .ref nsh, .ref nsf, .ref nss, .ref nrc, .int mtraced, .int mdealer, .int mnumber, .int mwhose, .int msize, .int misParted])), (nw, .inl (G.2.1, 1662, .inl fnw)), (nk, .inl (G.2.1, 1662, .inl u))]) A) ([.ref h0] : List Value).toArray s 0 0 A) (F0 m 2 ls []) := by
    intro nP
    induction nP with
    | zero =>
      intro kP vK H locs ls hkP hag hP hD hS hl
      obtain rfl : 1662 = kP := by omega
      have hl : lv_has ls 2 [(1, .int 1662), (0, .ref h0)] := hl
      refine lv_iload_n hx hb dX12_keep_2 rfl (lv_at hl 0 rfl) ?_
      refine lv_sipush (v := 1662) hx hb dX12_keep_3 (by decide) ?_
      refine lv_icmp_ge (tgt := 27) hx hb dX12_keep_6 (by decide) (fun _ => ?_) (fun c9 => absurd (by decide) c9)
      refine lv_aload_n hx hb dX12_keep_27 rfl (lv_at hl 1 rfl) ?_
      refine lv_iconst (v := 1) hx hb dX12_keep_28 (by decide) ?_
      refine pf_X12_383 hC rfl hK hP hD hS 0 (ws' := [(h0, .inr (12, [.ref nw, .ref nk, .int 1, .ref nt, .int mtaped, .ref nr, .int mrowMany, .int mroundOf, .int mroundFrom, .int mouts, .ref nm, .int mfromHour, .int mtoHour, .ref ns, .int mfrom, .int mto, .int msort, .int misFault, .int mdeep, .int mcoded, .int mlines, .ref nl, .ref nc, .ref nF, .ref np, .ref ntr, .ref nb, .int mbestCost, .ref nso, .ref nsi, .ref nit, .ref nsh, .ref nsf, .ref nss, .ref nrc, .int mtraced, .int mdealer, .int mnumber, .int mwhose, .int msize, .int misParted])), (nw, .inl (G.2.1, 1662, .inl fnw)), (nk, .inl (G.2.1, 1662, .inl vK))]) rfl (Nat.le_of_ble_eq_true rfl) rfl (by decide +kernel) (by decide +kernel) dX12_keep_29 (fun H locs hP hD hS => ?_)
      refine lv_iconst (v := 1) hx hb dX12_keep_32 (by decide) ?_
      exact RI (v := 1) hC hP hD hS [0, 1, 2] vK rfl rfl (by decide) (⟨rfl, ⟨AG.NI hag hN, AG.VI hag hV⟩⟩) rfl dX12_keep_33
    | succ nP ihP =>
      intro kP vK H locs ls hkP hag hP hD hS hl
      refine lv_iload_n hx hb dX12_keep_2 rfl (lv_at hl 0 rfl) ?_
      refine lv_sipush (v := 1662) hx hb dX12_keep_3 (by decide) ?_
      refine lv_icmp_ge (tgt := 27) hx hb dX12_keep_6 (by decide) (fun c9 => absurd c9 (nI_ge (a := kP) (b := 1662) (by omega) (by omega))) (fun _ => ?_)
      refine lv_aload_n hx hb dX12_keep_9 rfl (lv_at hl 1 rfl) ?_
      refine gf_X12_13 hC rfl hK hP 0 rfl rfl dX12_keep_10 ?_
      refine lv_iload_n hx hb dX12_keep_13 rfl (lv_at hl 0 rfl) ?_
      refine lv_aload_n hx hb dX12_keep_14 rfl (lv_at hl 1 rfl) ?_
      refine gf_X12_9 hC rfl hK hP 0 rfl rfl dX12_keep_15 ?_
      refine lv_iload_n hx hb dX12_keep_18 rfl (lv_at hl 0 rfl) ?_
      refine ald hC hK hP 1 rfl (vp_in_nI (by omega) (by omega)) (k := kP) (nI_clamp (by omega)) (v := fnw kP) rfl dX12_keep_19 ?_
      refine lv_topi (fun x6395 ex6395 => ?_)
      refine ast hC hK hP hD hS 2 (ws' := [(h0, .inr (12, [.ref nw, .ref nk, .int mhasKept, .ref nt, .int mtaped, .ref nr, .int mrowMany, .int mroundOf, .int mroundFrom, .int mouts, .ref nm, .int mfromHour, .int mtoHour, .ref ns, .int mfrom, .int mto, .int msort, .int misFault, .int mdeep, .int mcoded, .int mlines, .ref nl, .ref nc, .ref nF, .ref np, .ref ntr, .ref nb, .int mbestCost, .ref nso, .ref nsi, .ref nit, .ref nsh, .ref nsf, .ref nss, .ref nrc, .int mtraced, .int mdealer, .int mnumber, .int mwhose, .int msize, .int misParted])), (nw, .inl (G.2.1, 1662, .inl fnw)), (nk, .inl (G.2.1, 1662, .inl (upd vK kP x6395)))]) rfl (vp_in_nI (by omega) (by omega)) (k := kP) (nI_clamp (by omega)) (rfl) dX12_keep_20 (fun H locs hP hD hS => ?_)
      refine lv_iinc (v := nI (kP + 1)) (lv' := [(1, .int (nI (kP + 1))), (0, .ref h0)]) hx hb dX12_keep_21 hl (k := 0) rfl (nI_1 _) (by decide) rfl (fun ls hl => ?_)
      refine lv_goto (tgt := 2) hx hb dX12_keep_24 (by decide) ?_
      exact ihP (kP + 1) (upd vK kP x6395) _ _ _ (by omega) (by first | assumption | exact Or.inl rfl | exact Or.inr rfl | exact AG.zero | exact AG.next (by assumption) (by assumption)) hP hD hS (lv_sub hl [0, 1] rfl)
  exact keyP 1662 0 fnk _ _ _ (by omega) (by first | assumption | exact Or.inl rfl | exact Or.inr rfl | exact AG.zero | exact AG.next (by assumption) (by assumption)) hP hD hS (lv_sub hl [0, 1] rfl)
set_option maxHeartbeats 4000000 in
set_option maxRecDepth 100000 in
theorem w_again (l : Launch) (G : GG) (h0 : Nat) (nw : Nat) (nk : Nat) (mhasKept : Int32) (nt : Nat) (mtaped : Int32) (nr : Nat) (mrowMany : Int32) (mroundOf : Int32) (mroundFrom : Int32) (mouts : Int32) (nm : Nat) (mfromHour : Int32) (mtoHour : Int32) (ns : Nat) (mfrom : Int32) (mto : Int32) (msort : Int32) (misFault : Int32) (mdeep : Int32) (mcoded : Int32) (mlines : Int32) (nl : Nat) (nc : Nat) (nF : Nat) (np : Nat) (ntr : Nat) (nb : Nat) (mbestCost : Int32) (nso : Nat) (nsi : Nat) (nit : Nat) (nsh : Nat) (nsf : Nat) (nss : Nat) (nrc : Nat) (mtraced : Int32) (mdealer : Int32) (mnumber : Int32) (mwhose : Int32) (msize : Int32) (misParted : Int32) (fnw : Nat → Int32) (fnk : Nat → Int32) (hN : NI fnw) (hV : VI fnw) (hNk : NI fnk) (hVk : VI fnk) : MI l G yX12_again cX12_again 2 (some .int) 1 0 0 [.ref h0] [(h0, .inr (12, [.ref nw, .ref nk, .int mhasKept, .ref nt, .int mtaped, .ref nr, .int mrowMany, .int mroundOf, .int mroundFrom, .int mouts, .ref nm, .int mfromHour, .int mtoHour, .ref ns, .int mfrom, .int mto, .int msort, .int misFault, .int mdeep, .int mcoded, .int mlines, .ref nl, .ref nc, .ref nF, .ref np, .ref ntr, .ref nb, .int mbestCost, .ref nso, .ref nsi, .ref nit, .ref nsh, .ref nsf, .ref nss, .ref nrc, .int mtraced, .int mdealer, .int mnumber, .int mwhose, .int msize, .int misParted])), (nw, .inl (G.2.1, 1662, .inl fnw)), (nk, .inl (G.2.1, 1662, .inl fnk))] (fun (r : Int32) (u : (Nat → Int32)) => (True) ∧ (NI u ∧ VI u)) (fun u : (Nat → Int32) => [(h0, .inr (12, [.ref nw, .ref nk, .int mhasKept, .ref nt, .int mtaped, .ref nr, .int mrowMany, .int mroundOf, .int mroundFrom, .int mouts, .ref nm, .int mfromHour, .int mtoHour, .ref ns, .int mfrom, .int mto, .int msort, .int misFault, .int mdeep, .int mcoded, .int mlines, .ref nl, .ref nc, .ref nF, .ref np, .ref ntr, .ref nb, .int mbestCost, .ref nso, .ref nsi, .ref nit, .ref nsh, .ref nsf, .ref nss, .ref nrc, .int mtraced, .int mdealer, .int mnumber, .int mwhose, .int msize, .int misParted])), (nw, .inl (G.2.1, 1662, .inl u)), (nk, .inl (G.2.1, 1662, .inl fnk))]) := by
  refine MI.start (by decide +kernel) (Nat.le_of_ble_eq_true rfl) ?_
  intro p e s m below meth c A ls hC hK hP hD hS hA hl
  have hl : lv_has ls 2 [(0, .ref h0)] := hl
  obtain ⟨hx, hb, hr, hml, hB, hown, hlocks, hnm⟩ := id hC
  refine lv_aload_n hx hb dX12_again_0 rfl (lv_at hl 0 rfl) ?_
  refine gf_X12_383 hC rfl hK hP 0 rfl rfl dX12_again_1 ?_
  refine lv_if_ne (tgt := 10) hx hb dX12_again_4 (by decide) (fun c_4_6396 => ?_) (fun c_4_6396 => ?_)
  · refine lv_iconst (v := 0) hx hb dX12_again_10 (by decide) ?_
    refine lv_istore_n (lv' := [(1, .int 0), (0, .ref h0)]) hx hb dX12_again_11 rfl hl (by decide) rfl (fun ls hl => ?_)
    have keyP : ∀ (nP kP : Nat) (vK : Nat → Int32) (H : Heap) (locs : List Loc) (ls : Array Slot), kP + nP = 1662 → (AG kP fnk vK) → va_P G.1 vwCl [(h0, .inr (12, [.ref nw, .ref nk, .int mhasKept, .ref nt, .int mtaped, .ref nr, .int mrowMany, .int mroundOf, .int mroundFrom, .int mouts, .ref nm, .int mfromHour, .int mtoHour, .ref ns, .int mfrom, .int mto, .int msort, .int misFault, .int mdeep, .int mcoded, .int mlines, .ref nl, .ref nc, .ref nF, .ref np, .ref ntr, .ref nb, .int mbestCost, .ref nso, .ref nsi, .ref nit, .ref nsh, .ref nsf, .ref nss, .ref nrc, .int mtraced, .int mdealer, .int mnumber, .int mwhose, .int msize, .int misParted])), (nw, .inl (G.2.1, 1662, .inl vK)), (nk, .inl (G.2.1, 1662, .inl fnk))] H → va_D A [(h0, .inr (12, [.ref nw, .ref nk, .int mhasKept, .ref nt, .int mtaped, .ref nr, .int mrowMany, .int mroundOf, .int mroundFrom, .int mouts, .ref nm, .int mfromHour, .int mtoHour, .ref ns, .int mfrom, .int mto, .int msort, .int misFault, .int mdeep, .int mcoded, .int mlines, .ref nl, .ref nc, .ref nF, .ref np, .ref ntr, .ref nb, .int mbestCost, .ref nso, .ref nsi, .ref nit, .ref nsh, .ref nsf, .ref nss, .ref nrc, .int mtraced, .int mdealer, .int mnumber, .int mwhose, .int msize, .int misParted])), (nw, .inl (G.2.1, 1662, .inl vK)), (nk, .inl (G.2.1, 1662, .inl fnk))] → va_S A s.heap H locs → lv_has ls 2 [(1, .int (nI kP)), (0, .ref h0)] → W p l e (RM 1 0 0) s m ([.ref h0] : List Value).toArray below meth c H locs 0 0 (MQ below (QI G (fun (r : Int32) (u : (Nat → Int32)) => (True) ∧ (NI u ∧ VI u)) (fun u : (Nat → Int32) => [(h0, .inr (12, [.ref nw, .ref nk, .int mhasKept, .ref nt, .int mtaped, .ref nr, .int mrowMany, .int mroundOf, .int mroundFrom, .int mouts, .ref nm, .int mfromHour, .int mtoHour, .ref ns, .int mfrom, .int mto, .int msort, .int misFault, .int mdeep, .int mcoded, .int mlines, .ref nl, .ref nc, .ref nF, .ref np, .ref ntr, .ref nb, .int mbestCost, .ref nso, .ref nsi, .ref nit, .ref nsh, .ref nsf, .ref nss, .ref nrc, .int mtraced, .int mdealer, .int mnumber, .int mwhose, .int msize, .int misParted])), (nw, .inl (G.2.1, 1662, .inl u)), (nk, .inl (G.2.1, 1662, .inl fnk))]) A) ([.ref h0] : List Value).toArray s 0 0 A) (F0 m 12 ls []) := by
      intro nP
      induction nP with
      | zero =>
        intro kP vK H locs ls hkP hag hP hD hS hl
        obtain rfl : 1662 = kP := by omega
        have hl : lv_has ls 2 [(1, .int 1662), (0, .ref h0)] := hl
        refine lv_iload_n hx hb dX12_again_12 rfl (lv_at hl 0 rfl) ?_
        refine lv_sipush (v := 1662) hx hb dX12_again_13 (by decide) ?_
        refine lv_icmp_ge (tgt := 37) hx hb dX12_again_16 (by decide) (fun _ => ?_) (fun c9 => absurd (by decide) c9)
        refine lv_iconst (v := 1) hx hb dX12_again_37 (by decide) ?_
        exact RI (v := 1) hC hP hD hS [0, 1, 2] vK rfl rfl (by decide) (⟨trivial, ⟨AG.NI hag hNk, AG.VI hag hVk⟩⟩) rfl dX12_again_38
      | succ nP ihP =>
        intro kP vK H locs ls hkP hag hP hD hS hl
        refine lv_iload_n hx hb dX12_again_12 rfl (lv_at hl 0 rfl) ?_
        refine lv_sipush (v := 1662) hx hb dX12_again_13 (by decide) ?_
        refine lv_icmp_ge (tgt := 37) hx hb dX12_again_16 (by decide) (fun c9 => absurd c9 (nI_ge (a := kP) (b := 1662) (by omega) (by omega))) (fun _ => ?_)
        refine lv_aload_n hx hb dX12_again_19 rfl (lv_at hl 1 rfl) ?_
        refine gf_X12_9 hC rfl hK hP 0 rfl rfl dX12_again_20 ?_
        refine lv_iload_n hx hb dX12_again_23 rfl (lv_at hl 0 rfl) ?_
        refine lv_aload_n hx hb dX12_again_24 rfl (lv_at hl 1 rfl) ?_
        refine gf_X12_13 hC rfl hK hP 0 rfl rfl dX12_again_25 ?_
        refine lv_iload_n hx hb dX12_again_28 rfl (lv_at hl 0 rfl) ?_
        refine ald hC hK hP 2 rfl (vp_in_nI (by omega) (by omega)) (k := kP) (nI_clamp (by omega)) (v := fnk kP) rfl dX12_again_29 ?_
        refine lv_topi (fun x6397 ex6397 => ?_)
        refine ast hC hK hP hD hS 1 (ws' := [(h0, .inr (12, [.ref nw, .ref nk, .int mhasKept, .ref nt, .int mtaped, .ref nr, .int mrowMany, .int mroundOf, .int mroundFrom, .int mouts, .ref nm, .int mfromHour, .int mtoHour, .ref ns, .int mfrom, .int mto, .int msort, .int misFault, .int mdeep, .int mcoded, .int mlines, .ref nl, .ref nc, .ref nF, .ref np, .ref ntr, .ref nb, .int mbestCost, .ref nso, .ref nsi, .ref nit, .ref nsh, .ref nsf, .ref nss, .ref nrc, .int mtraced, .int mdealer, .int mnumber, .int mwhose, .int msize, .int misParted])), (nw, .inl (G.2.1, 1662, .inl (upd vK kP x6397))), (nk, .inl (G.2.1, 1662, .inl fnk))]) rfl (vp_in_nI (by omega) (by omega)) (k := kP) (nI_clamp (by omega)) (rfl) dX12_again_30 (fun H locs hP hD hS => ?_)
        refine lv_iinc (v := nI (kP + 1)) (lv' := [(1, .int (nI (kP + 1))), (0, .ref h0)]) hx hb dX12_again_31 hl (k := 0) rfl (nI_1 _) (by decide) rfl (fun ls hl => ?_)
        refine lv_goto (tgt := 12) hx hb dX12_again_34 (by decide) ?_
        exact ihP (kP + 1) (upd vK kP x6397) _ _ _ (by omega) (by first | assumption | exact Or.inl rfl | exact Or.inr rfl | exact AG.zero | exact AG.next (by assumption) (by assumption)) hP hD hS (lv_sub hl [0, 1] rfl)
    exact keyP 1662 0 fnw _ _ _ (by omega) (by first | assumption | exact Or.inl rfl | exact Or.inr rfl | exact AG.zero | exact AG.next (by assumption) (by assumption)) hP hD hS (lv_sub hl [0, 1] rfl)
  · refine lv_bipush (v := (-3)) hx hb dX12_again_7 (by decide) ?_
    exact RI (v := (-3)) hC hP hD hS [0, 1, 2] fnw rfl rfl (by decide) (⟨trivial, ⟨hN, hV⟩⟩) rfl dX12_again_9
