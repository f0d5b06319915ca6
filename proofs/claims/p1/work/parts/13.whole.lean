section WR
variable {p : Program} {l : Launch} {e : Env} {R : Room} {s : State} {m : MethodId} {args : Array Value} {below : List Frame} {meth : Method} {c : Code} {H : Heap} {locs : List Loc} {cells slots : Nat} {Q : State → Prop}
variable {pc : Nat} {ls : Array Slot} {rest : List Value} {G : GG} {ws : va_W} {A : Nat → Prop} {y0 : MethodName} {b0 : ByteArray} {mL0 : Nat} {rt0 : Option FieldType} {a : Nat} {H0 : Heap}
end WR
theorem sf_of {A : Nat → Prop} {s : State} {b : Nat} {idx : Nat} {tx : String} (hA2 : ∀ q : Nat, A q → s.heap.size ≤ q) (h1 : (Cond.stringRef RX12 idx tx).before #[Value.ref b] s = true) (h2 : (Cond.exactly (.string RX12 idx) RJ0).before #[Value.ref b] s = true) : ∃ q, vk_R RX12 idx tx q s ∧ SA A s q := by
  obtain ⟨a, c, cell, k, ht, hc, hcell, hk, hst, hcls, -⟩ := Cond.exactly_spec h2
  have hlt : a < s.heap.size := (Array.getElem?_eq_some_iff.mp hcell).1
  exact ⟨a, vk_R.of h1 ht, hlt, fun h => absurd (hA2 a h) (Nat.not_le.mpr hlt), cell, hcell, hst, by rw [hcls]; exact hc⟩
section WR
variable {p : Program} {l : Launch} {e : Env} {R : Room} {s : State} {m : MethodId} {args : Array Value} {below : List Frame} {meth : Method} {c : Code} {H : Heap} {locs : List Loc} {cells slots : Nat} {Q : State → Prop}
variable {pc : Nat} {ls : Array Slot} {rest : List Value} {G : GG} {ws : va_W} {A : Nat → Prop} {y0 : MethodName} {b0 : ByteArray} {mL0 : Nat} {rt0 : Option FieldType} {a : Nat} {H0 : Heap}
end WR
theorem sr_40 : Cond.stringRef RX12 40 "person" ∈ lw_tbl := List.mem_of_getElem? (i := 1343) (by decide +kernel)
section WR
variable {p : Program} {l : Launch} {e : Env} {R : Room} {s : State} {m : MethodId} {args : Array Value} {below : List Frame} {meth : Method} {c : Code} {H : Heap} {locs : List Loc} {cells slots : Nat} {Q : State → Prop}
variable {pc : Nat} {ls : Array Slot} {rest : List Value} {G : GG} {ws : va_W} {A : Nat → Prop} {y0 : MethodName} {b0 : ByteArray} {mL0 : Nat} {rt0 : Option FieldType} {a : Nat} {H0 : Heap}
end WR
theorem se_40 : Cond.exactly (.string RX12 40) RJ0 ∈ flatC (Jvm.Cond.and given_1 narrow_1) := by decide +kernel
section WR
variable {p : Program} {l : Launch} {e : Env} {R : Room} {s : State} {m : MethodId} {args : Array Value} {below : List Frame} {meth : Method} {c : Code} {H : Heap} {locs : List Loc} {cells slots : Nat} {Q : State → Prop}
variable {pc : Nat} {ls : Array Slot} {rest : List Value} {G : GG} {ws : va_W} {A : Nat → Prop} {y0 : MethodName} {b0 : ByteArray} {mL0 : Nat} {rt0 : Option FieldType} {a : Nat} {H0 : Heap}
end WR
theorem sr_42 : Cond.stringRef RX12 42 "post" ∈ lw_tbl := List.mem_of_getElem? (i := 1344) (by decide +kernel)
section WR
variable {p : Program} {l : Launch} {e : Env} {R : Room} {s : State} {m : MethodId} {args : Array Value} {below : List Frame} {meth : Method} {c : Code} {H : Heap} {locs : List Loc} {cells slots : Nat} {Q : State → Prop}
variable {pc : Nat} {ls : Array Slot} {rest : List Value} {G : GG} {ws : va_W} {A : Nat → Prop} {y0 : MethodName} {b0 : ByteArray} {mL0 : Nat} {rt0 : Option FieldType} {a : Nat} {H0 : Heap}
end WR
theorem se_42 : Cond.exactly (.string RX12 42) RJ0 ∈ flatC (Jvm.Cond.and given_1 narrow_1) := by decide +kernel
section WR
variable {p : Program} {l : Launch} {e : Env} {R : Room} {s : State} {m : MethodId} {args : Array Value} {below : List Frame} {meth : Method} {c : Code} {H : Heap} {locs : List Loc} {cells slots : Nat} {Q : State → Prop}
variable {pc : Nat} {ls : Array Slot} {rest : List Value} {G : GG} {ws : va_W} {A : Nat → Prop} {y0 : MethodName} {b0 : ByteArray} {mL0 : Nat} {rt0 : Option FieldType} {a : Nat} {H0 : Heap}
end WR
theorem sr_44 : Cond.stringRef RX12 44 "had" ∈ lw_tbl := List.mem_of_getElem? (i := 1345) (by decide +kernel)
section WR
variable {p : Program} {l : Launch} {e : Env} {R : Room} {s : State} {m : MethodId} {args : Array Value} {below : List Frame} {meth : Method} {c : Code} {H : Heap} {locs : List Loc} {cells slots : Nat} {Q : State → Prop}
variable {pc : Nat} {ls : Array Slot} {rest : List Value} {G : GG} {ws : va_W} {A : Nat → Prop} {y0 : MethodName} {b0 : ByteArray} {mL0 : Nat} {rt0 : Option FieldType} {a : Nat} {H0 : Heap}
end WR
theorem se_44 : Cond.exactly (.string RX12 44) RJ0 ∈ flatC (Jvm.Cond.and given_1 narrow_1) := by decide +kernel
section WR
variable {p : Program} {l : Launch} {e : Env} {R : Room} {s : State} {m : MethodId} {args : Array Value} {below : List Frame} {meth : Method} {c : Code} {H : Heap} {locs : List Loc} {cells slots : Nat} {Q : State → Prop}
variable {pc : Nat} {ls : Array Slot} {rest : List Value} {G : GG} {ws : va_W} {A : Nat → Prop} {y0 : MethodName} {b0 : ByteArray} {mL0 : Nat} {rt0 : Option FieldType} {a : Nat} {H0 : Heap}
end WR
theorem sr_46 : Cond.stringRef RX12 46 "made" ∈ lw_tbl := List.mem_of_getElem? (i := 1346) (by decide +kernel)
section WR
variable {p : Program} {l : Launch} {e : Env} {R : Room} {s : State} {m : MethodId} {args : Array Value} {below : List Frame} {meth : Method} {c : Code} {H : Heap} {locs : List Loc} {cells slots : Nat} {Q : State → Prop}
variable {pc : Nat} {ls : Array Slot} {rest : List Value} {G : GG} {ws : va_W} {A : Nat → Prop} {y0 : MethodName} {b0 : ByteArray} {mL0 : Nat} {rt0 : Option FieldType} {a : Nat} {H0 : Heap}
end WR
theorem se_46 : Cond.exactly (.string RX12 46) RJ0 ∈ flatC (Jvm.Cond.and given_1 narrow_1) := by decide +kernel
section WR
variable {p : Program} {l : Launch} {e : Env} {R : Room} {s : State} {m : MethodId} {args : Array Value} {below : List Frame} {meth : Method} {c : Code} {H : Heap} {locs : List Loc} {cells slots : Nat} {Q : State → Prop}
variable {pc : Nat} {ls : Array Slot} {rest : List Value} {G : GG} {ws : va_W} {A : Nat → Prop} {y0 : MethodName} {b0 : ByteArray} {mL0 : Nat} {rt0 : Option FieldType} {a : Nat} {H0 : Heap}
end WR
theorem sr_48 : Cond.stringRef RX12 48 "slow" ∈ lw_tbl := List.mem_of_getElem? (i := 1347) (by decide +kernel)
section WR
variable {p : Program} {l : Launch} {e : Env} {R : Room} {s : State} {m : MethodId} {args : Array Value} {below : List Frame} {meth : Method} {c : Code} {H : Heap} {locs : List Loc} {cells slots : Nat} {Q : State → Prop}
variable {pc : Nat} {ls : Array Slot} {rest : List Value} {G : GG} {ws : va_W} {A : Nat → Prop} {y0 : MethodName} {b0 : ByteArray} {mL0 : Nat} {rt0 : Option FieldType} {a : Nat} {H0 : Heap}
end WR
theorem se_48 : Cond.exactly (.string RX12 48) RJ0 ∈ flatC (Jvm.Cond.and given_1 narrow_1) := by decide +kernel
section WR
variable {p : Program} {l : Launch} {e : Env} {R : Room} {s : State} {m : MethodId} {args : Array Value} {below : List Frame} {meth : Method} {c : Code} {H : Heap} {locs : List Loc} {cells slots : Nat} {Q : State → Prop}
variable {pc : Nat} {ls : Array Slot} {rest : List Value} {G : GG} {ws : va_W} {A : Nat → Prop} {y0 : MethodName} {b0 : ByteArray} {mL0 : Nat} {rt0 : Option FieldType} {a : Nat} {H0 : Heap}
end WR
theorem ao_C : Cond.arrayOver (.object RX1) ∈ lw_tbl := List.mem_of_getElem? (i := 291) (by decide +kernel)
section WR
variable {p : Program} {l : Launch} {e : Env} {R : Room} {s : State} {m : MethodId} {args : Array Value} {below : List Frame} {meth : Method} {c : Code} {H : Heap} {locs : List Loc} {cells slots : Nat} {Q : State → Prop}
variable {pc : Nat} {ls : Array Slot} {rest : List Value} {G : GG} {ws : va_W} {A : Nat → Prop} {y0 : MethodName} {b0 : ByteArray} {mL0 : Nat} {rt0 : Option FieldType} {a : Nat} {H0 : Heap}
end WR
theorem ao_S : Cond.arrayOver (.object RJ0) ∈ lw_tbl := List.mem_of_getElem? (i := 1342) (by decide +kernel)
section WR
variable {p : Program} {l : Launch} {e : Env} {R : Room} {s : State} {m : MethodId} {args : Array Value} {below : List Frame} {meth : Method} {c : Code} {H : Heap} {locs : List Loc} {cells slots : Nat} {Q : State → Prop}
variable {pc : Nat} {ls : Array Slot} {rest : List Value} {G : GG} {ws : va_W} {A : Nat → Prop} {y0 : MethodName} {b0 : ByteArray} {mL0 : Nat} {rt0 : Option FieldType} {a : Nat} {H0 : Heap}
theorem m_1 : Cond.instantiable RX11 11 ∈ BW := List.mem_of_getElem? (i := 1) (by decide +kernel)
theorem m_4 : Cond.instantiable RX12 41 ∈ BW := List.mem_of_getElem? (i := 4) (by decide +kernel)
theorem dL_law_0 : decode cL_law 0 = .ok (.new 7, 3) := by decide +kernel
theorem m_0 : Cond.classLink RL 7 RX11 ∈ BW := List.mem_of_getElem? (i := 0) (by decide +kernel)
theorem nw_L_7 (hC : CX p s m meth c y0 b0 mL0 rt0 args) (hy0 : y0.cls = RL) (hK : KK G s) (hP : va_P G.1 vwCl ws H) (hD : va_D A ws) (hS : va_S A H0 H locs) (hA : ∀ q : Nat, H0.size ≤ q → A q) (hcells : cells + 1 ≤ R.cells) (hslots : slots + 11 ≤ R.slots) (hdg : decode b0 pc = .ok (.new 7, 3)) (kk : ∀ (q : Nat) (H1 : Heap), va_P G.1 vwCl (ws ++ [(q, .inr (11, [.null, .null, .int 0, .null, .null, .null, .null, .null, .null, .null, .null]))]) H1 → va_D A (ws ++ [(q, .inr (11, [.null, .null, .int 0, .null, .null, .null, .null, .null, .null, .null, .null]))]) → va_S A H0 H1 locs → W p l e R s m args below meth c H1 locs (cells + 1) (slots + 11) Q (F0 m (pc + 3) ls (.ref q :: rest))) : W p l e R s m args below meth c H locs cells slots Q (F0 m pc ls rest) := by
  obtain ⟨hx, hb, hr, hml, hB, hown, hlocks, hnm⟩ := hC
  rw [hy0] at hown
  exact va_new (ci := 11) (C := RX11) (T := TX11) (N := 11) hx hb hB in_X11 tyX11 tyX11_ok hown (hB _ m_0) (hB _ m_1) (hB _ m_2) hK.1 hP hD hS hA rfl (fun j hj => by rcases (show j = 0 ∨ j = 1 ∨ j = 2 ∨ j = 3 ∨ j = 4 ∨ j = 5 ∨ j = 6 ∨ j = 7 ∨ j = 8 ∨ j = 9 ∨ j = 10 by omega) with rfl | rfl | rfl | rfl | rfl | rfl | rfl | rfl | rfl | rfl | rfl <;> rfl) hcells hslots hdg kk
theorem dL_law_3 : decode cL_law 3 = .ok (.dup, 1) := by decide +kernel
theorem dL_law_4 : decode cL_law 4 = .ok (.invokespecial 9, 3) := by decide +kernel
theorem m_9 : Cond.code yX11_init cX11_init 3 none ∈ BW := List.mem_of_getElem? (i := 9) (by decide +kernel)
theorem m_7 : Cond.methodLink RL 9 yX11_init ∈ BW := List.mem_of_getElem? (i := 7) (by decide +kernel)
theorem m_8 : Cond.instanceMethod yX11_init ∈ BW := List.mem_of_getElem? (i := 8) (by decide +kernel)
theorem si_L_9 : SI RL 9 yX11_init cX11_init 3 0 := ⟨⟨m_7, m_8, m_2, m_9⟩, rfl, ⟨by decide +kernel, by decide +kernel, by decide +kernel⟩⟩
theorem dL_law_7 : decode cL_law 7 = .ok (.astore_n 1, 1) := by decide +kernel
theorem dL_law_8 : decode cL_law 8 = .ok (.new 10, 3) := by decide +kernel
theorem m_3 : Cond.classLink RL 10 RX12 ∈ BW := List.mem_of_getElem? (i := 3) (by decide +kernel)
theorem nw_L_10 (hC : CX p s m meth c y0 b0 mL0 rt0 args) (hy0 : y0.cls = RL) (hK : KK G s) (hP : va_P G.1 vwCl ws H) (hD : va_D A ws) (hS : va_S A H0 H locs) (hA : ∀ q : Nat, H0.size ≤ q → A q) (hcells : cells + 1 ≤ R.cells) (hslots : slots + 41 ≤ R.slots) (hdg : decode b0 pc = .ok (.new 10, 3)) (kk : ∀ (q : Nat) (H1 : Heap), va_P G.1 vwCl (ws ++ [(q, .inr (12, [.null, .null, .int 0, .null, .int 0, .null, .int 0, .int 0, .int 0, .int 0, .null, .int 0, .int 0, .null, .int 0, .int 0, .int 0, .int 0, .int 0, .int 0, .int 0, .null, .null, .null, .null, .null, .null, .int 0, .null, .null, .null, .null, .null, .null, .null, .int 0, .int 0, .int 0, .int 0, .int 0, .int 0]))]) H1 → va_D A (ws ++ [(q, .inr (12, [.null, .null, .int 0, .null, .int 0, .null, .int 0, .int 0, .int 0, .int 0, .null, .int 0, .int 0, .null, .int 0, .int 0, .int 0, .int 0, .int 0, .int 0, .int 0, .null, .null, .null, .null, .null, .null, .int 0, .null, .null, .null, .null, .null, .null, .null, .int 0, .int 0, .int 0, .int 0, .int 0, .int 0]))]) → va_S A H0 H1 locs → W p l e R s m args below meth c H1 locs (cells + 1) (slots + 41) Q (F0 m (pc + 3) ls (.ref q :: rest))) : W p l e R s m args below meth c H locs cells slots Q (F0 m pc ls rest) := by
  obtain ⟨hx, hb, hr, hml, hB, hown, hlocks, hnm⟩ := hC
  rw [hy0] at hown
  exact va_new (ci := 12) (C := RX12) (T := TX12) (N := 41) hx hb hB in_X12 tyX12 tyX12_ok hown (hB _ m_3) (hB _ m_4) (hB _ m_5) hK.1 hP hD hS hA rfl (fun j hj => by rcases (show j = 0 ∨ j = 1 ∨ j = 2 ∨ j = 3 ∨ j = 4 ∨ j = 5 ∨ j = 6 ∨ j = 7 ∨ j = 8 ∨ j = 9 ∨ j = 10 ∨ j = 11 ∨ j = 12 ∨ j = 13 ∨ j = 14 ∨ j = 15 ∨ j = 16 ∨ j = 17 ∨ j = 18 ∨ j = 19 ∨ j = 20 ∨ j = 21 ∨ j = 22 ∨ j = 23 ∨ j = 24 ∨ j = 25 ∨ j = 26 ∨ j = 27 ∨ j = 28 ∨ j = 29 ∨ j = 30 ∨ j = 31 ∨ j = 32 ∨ j = 33 ∨ j = 34 ∨ j = 35 ∨ j = 36 ∨ j = 37 ∨ j = 38 ∨ j = 39 ∨ j = 40 by omega) with rfl | rfl | rfl | rfl | rfl | rfl | rfl | rfl | rfl | rfl | rfl | rfl | rfl | rfl | rfl | rfl | rfl | rfl | rfl | rfl | rfl | rfl | rfl | rfl | rfl | rfl | rfl | rfl | rfl | rfl | rfl | rfl | rfl | rfl | rfl | rfl | rfl | rfl | rfl | rfl | rfl <;> rfl) hcells hslots hdg kk
theorem dL_law_11 : decode cL_law 11 = .ok (.dup, 1) := by decide +kernel
theorem dL_law_12 : decode cL_law 12 = .ok (.invokespecial 12, 3) := by decide +kernel
theorem m_185 : Cond.code yX12_init cX12_init 2 none ∈ BW := List.mem_of_getElem? (i := 185) (by decide +kernel)
theorem m_183 : Cond.methodLink RL 12 yX12_init ∈ BW := List.mem_of_getElem? (i := 183) (by decide +kernel)
theorem m_184 : Cond.instanceMethod yX12_init ∈ BW := List.mem_of_getElem? (i := 184) (by decide +kernel)
theorem si_L_12 : SI RL 12 yX12_init cX12_init 2 0 := ⟨⟨m_183, m_184, m_5, m_185⟩, rfl, ⟨by decide +kernel, by decide +kernel, by decide +kernel⟩⟩
theorem dL_law_15 : decode cL_law 15 = .ok (.astore_n 2, 1) := by decide +kernel
theorem dL_law_16 : decode cL_law 16 = .ok (.iconst 0, 1) := by decide +kernel
theorem dL_law_17 : decode cL_law 17 = .ok (.istore_n 3, 1) := by decide +kernel
theorem dL_law_27 : decode cL_law 27 = .ok (.aload_n 0, 1) := by decide +kernel
theorem dL_law_28 : decode cL_law 28 = .ok (.iload_n 3, 1) := by decide +kernel
theorem dL_law_29 : decode cL_law 29 = .ok (.iaload, 1) := by decide +kernel
theorem dL_law_30 : decode cL_law 30 = .ok (.bipush 63, 2) := by decide +kernel
theorem dL_law_32 : decode cL_law 32 = .ok (.iand, 1) := by decide +kernel
theorem dL_law_33 : decode cL_law 33 = .ok (.tableswitch 1685 0 41 #[183, 206, 239, 272, 305, 358, 381, 414, 457, 510, 533, 556, 605, 654, 713, 746, 789, 852, 865, 908, 941, 1032, 1075, 1088, 1141, 1174, 1207, 1240, 1263, 1296, 1339, 1352, 1365, 1408, 1451, 1494, 1537, 1570, 1613, 1636, 1659, 1672], 183) := by decide +kernel
theorem sw_0_41 {x : Int32} : ¬ x = 0 → ¬ x = 1 → ¬ x = 2 → ¬ x = 3 → ¬ x = 4 → ¬ x = 5 → ¬ x = 6 → ¬ x = 7 → ¬ x = 8 → ¬ x = 9 → ¬ x = 10 → ¬ x = 11 → ¬ x = 12 → ¬ x = 13 → ¬ x = 14 → ¬ x = 15 → ¬ x = 16 → ¬ x = 17 → ¬ x = 18 → ¬ x = 19 → ¬ x = 20 → ¬ x = 21 → ¬ x = 22 → ¬ x = 23 → ¬ x = 24 → ¬ x = 25 → ¬ x = 26 → ¬ x = 27 → ¬ x = 28 → ¬ x = 29 → ¬ x = 30 → ¬ x = 31 → ¬ x = 32 → ¬ x = 33 → ¬ x = 34 → ¬ x = 35 → ¬ x = 36 → ¬ x = 37 → ¬ x = 38 → ¬ x = 39 → ¬ x = 40 → ¬ x = 41 →  (x.toInt < 0 ∨ 41 < x.toInt) := by
  intros
  simp only [← Int32.toInt_inj] at *
  have hk : ∀ k : Int, x.toInt = k → x.toInt = k := fun _ h => h
  have k0 : (0 : Int32).toInt = 0 := by decide
  have k1 : (1 : Int32).toInt = 1 := by decide
  have k2 : (2 : Int32).toInt = 2 := by decide
  have k3 : (3 : Int32).toInt = 3 := by decide
  have k4 : (4 : Int32).toInt = 4 := by decide
  have k5 : (5 : Int32).toInt = 5 := by decide
  have k6 : (6 : Int32).toInt = 6 := by decide
  have k7 : (7 : Int32).toInt = 7 := by decide
  have k8 : (8 : Int32).toInt = 8 := by decide
  have k9 : (9 : Int32).toInt = 9 := by decide
  have k10 : (10 : Int32).toInt = 10 := by decide
  have k11 : (11 : Int32).toInt = 11 := by decide
  have k12 : (12 : Int32).toInt = 12 := by decide
  have k13 : (13 : Int32).toInt = 13 := by decide
  have k14 : (14 : Int32).toInt = 14 := by decide
  have k15 : (15 : Int32).toInt = 15 := by decide
  have k16 : (16 : Int32).toInt = 16 := by decide
  have k17 : (17 : Int32).toInt = 17 := by decide
  have k18 : (18 : Int32).toInt = 18 := by decide
  have k19 : (19 : Int32).toInt = 19 := by decide
  have k20 : (20 : Int32).toInt = 20 := by decide
  have k21 : (21 : Int32).toInt = 21 := by decide
  have k22 : (22 : Int32).toInt = 22 := by decide
  have k23 : (23 : Int32).toInt = 23 := by decide
  have k24 : (24 : Int32).toInt = 24 := by decide
  have k25 : (25 : Int32).toInt = 25 := by decide
  have k26 : (26 : Int32).toInt = 26 := by decide
  have k27 : (27 : Int32).toInt = 27 := by decide
  have k28 : (28 : Int32).toInt = 28 := by decide
  have k29 : (29 : Int32).toInt = 29 := by decide
  have k30 : (30 : Int32).toInt = 30 := by decide
  have k31 : (31 : Int32).toInt = 31 := by decide
  have k32 : (32 : Int32).toInt = 32 := by decide
  have k33 : (33 : Int32).toInt = 33 := by decide
  have k34 : (34 : Int32).toInt = 34 := by decide
  have k35 : (35 : Int32).toInt = 35 := by decide
  have k36 : (36 : Int32).toInt = 36 := by decide
  have k37 : (37 : Int32).toInt = 37 := by decide
  have k38 : (38 : Int32).toInt = 38 := by decide
  have k39 : (39 : Int32).toInt = 39 := by decide
  have k40 : (40 : Int32).toInt = 40 := by decide
  have k41 : (41 : Int32).toInt = 41 := by decide
  omega
end WR
set_option maxHeartbeats 8000000 in
set_option maxRecDepth 100000 in
/-- THE LAW, from its entry -/
theorem whole_start {p : Program} {e : Env} {s : State} {m : MethodId} {below : List Frame} {meth : Method} {c : Code} (l : Launch) (hflags : l.flags = flags0) {b L : Nat} {xs : Nat → Int32} (hL : L ≤ 7) (C0 : lw_At p s m meth c b L xs) : W p l e room_1 s m #[Value.ref b] below meth c s.heap [] 0 0 (lw_Z below #[Value.ref b] s) (entryFrame m ([Value.ref b] : List Value).toArray 4) := by
  obtain ⟨hx, hb, hr, hml, hown, hts, hX7, hbl, hlocks, hgv⟩ := id C0
  have hB : ∀ w ∈ BW, w.before #[Value.ref b] s = true := fun w h => hts w (gBW w h).1
  obtain ⟨c0, i0, hk0⟩ := u_known (C := RX0) (T := TX0) (N := 14) (n := 14) hB in_X0 (hB _ m_14)
  obtain ⟨c1, i1, hk1⟩ := u_known (C := RX1) (T := TX1) (N := 1) (n := 1) hB in_X1 (hB _ m_89)
  obtain ⟨c2, i2, hk2⟩ := u_known (C := RX2) (T := TX2) (N := 8) (n := 8) hB in_X2 (hB _ m_48)
  obtain ⟨c3, i3, hk3⟩ := u_known (C := RX3) (T := TX3) (N := 5) (n := 5) hB in_X3 (hB _ m_24)
  obtain ⟨c4, i4, hk4⟩ := u_known (C := RX4) (T := TX4) (N := 6) (n := 6) hB in_X4 (hB _ m_44)
  obtain ⟨c5, i5, hk5⟩ := u_known (C := RX5) (T := TX5) (N := 6) (n := 6) hB in_X5 (hB _ m_40)
  obtain ⟨c6, i6, hk6⟩ := u_known (C := RX6) (T := TX6) (N := 7) (n := 7) hB in_X6 (hB _ m_28)
  obtain ⟨c7, i7, hk7⟩ := u_known (C := RX7) (T := TX7) (N := 9) (n := 9) hB in_X7 (hB _ m_17)
  obtain ⟨c8, i8, hk8⟩ := u_known (C := RX8) (T := TX8) (N := 4) (n := 4) hB in_X8 (hB _ m_55)
  obtain ⟨c9, i9, hk9⟩ := u_known (C := RX9) (T := TX9) (N := 6) (n := 6) hB in_X9 (hB _ m_32)
  obtain ⟨c10, i10, hk10⟩ := u_known (C := RX10) (T := TX10) (N := 8) (n := 8) hB in_X10 (hB _ m_36)
  obtain ⟨c11, i11, hk11⟩ := u_known (C := RX11) (T := TX11) (N := 11) (n := 11) hB in_X11 (hB _ m_1)
  obtain ⟨c12, i12, hk12⟩ := u_known (C := RX12) (T := TX12) (N := 41) (n := 41) hB in_X12 (hB _ m_4)
  obtain ⟨cI, kI, compI, hfI, hkI, hkindI⟩ := Cond.arrayClass_spec (hB _ m_81)
  obtain ⟨compC, cC, kC, hC1, hC2, hC3, hC4, hC5⟩ := Cond.arrayOver_spec (hts _ ao_C)
  obtain ⟨compS, cS, kS, hS1, hS2, hS3, hS4, hS5⟩ := Cond.arrayOver_spec (hts _ ao_S)
  obtain ⟨G, hK⟩ : ∃ G : GG, KK G s := by
    refine ⟨((fun k => if k = 0 then c0 else if k = 1 then c1 else if k = 2 then c2 else if k = 3 then c3 else if k = 4 then c4 else if k = 5 then c5 else if k = 6 then c6 else if k = 7 then c7 else if k = 8 then c8 else if k = 9 then c9 else if k = 10 then c10 else if k = 11 then c11 else c12, fun k => if k = 0 then i0 else if k = 1 then i1 else if k = 2 then i2 else if k = 3 then i3 else if k = 4 then i4 else if k = 5 then i5 else if k = 6 then i6 else if k = 7 then i7 else if k = 8 then i8 else if k = 9 then i9 else if k = 10 then i10 else if k = 11 then i11 else i12), cI, cC, cS), ⟨?_, ?_⟩, ?_, va_AO.of (hts _ ao_C), va_AO.of (hts _ ao_S)⟩
    · intro k q hq
      match k, hq with
      | 0, hq => cases hq; exact hk0
      | 1, hq => cases hq; exact hk1
      | 2, hq => cases hq; exact hk2
      | 3, hq => cases hq; exact hk3
      | 4, hq => cases hq; exact hk4
      | 5, hq => cases hq; exact hk5
      | 6, hq => cases hq; exact hk6
      | 7, hq => cases hq; exact hk7
      | 8, hq => cases hq; exact hk8
      | 9, hq => cases hq; exact hk9
      | 10, hq => cases hq; exact hk10
      | 11, hq => cases hq; exact hk11
      | 12, hq => cases hq; exact hk12
      | k + 13, hq => simp [vwCl] at hq
    · intro k q hq
      match k, hq with
      | 0, hq => cases hq; exact ⟨fun n z => ⟨(fun k h => by cases h), kI, hkI, compI, hkindI⟩, hfI⟩
      | 1, hq => cases hq; exact ⟨fun n z => ⟨(fun k h => by cases h), kC, hC3, compC, hC4⟩, kC, compC, hC3, hC4, hC1, hC5⟩
      | 2, hq => cases hq; exact ⟨fun n z => ⟨(fun k h => by cases h), kS, hS3, compS, hS4⟩, kS, compS, hS3, hS4, hS1, hS5⟩
      | k + 3, hq => simp [TYS] at hq
    · intro w hw
      have hkn : isNest w = true := List.all_eq_true.mp nest_all w hw
      have hbf := hts w (nest_in w hw)
      cases w <;> first | (exact va_Nw.of rfl hbf) | (exact absurd hkn (by simp [isNest]))
  obtain ⟨A, hAe⟩ : ∃ A : Nat → Prop, A = fun q : Nat => s.heap.size ≤ q := ⟨_, rfl⟩
  have hA : ∀ q : Nat, s.heap.size ≤ q → A q := fun q h => by rw [hAe]; exact h
  have hA2 : ∀ q : Nat, A q → s.heap.size ≤ q := fun q h => by rw [hAe] at h; exact h
  have hbA : ¬ A b := fun h => absurd (hA2 b h) (Nat.not_le.mpr hbl)
  obtain ⟨sq40, sv40⟩ := sf_of hA2 (hts _ sr_40) (flat_of_before _ hgv _ se_40)
  obtain ⟨sq42, sv42⟩ := sf_of hA2 (hts _ sr_42) (flat_of_before _ hgv _ se_42)
  obtain ⟨sq44, sv44⟩ := sf_of hA2 (hts _ sr_44) (flat_of_before _ hgv _ se_44)
  obtain ⟨sq46, sv46⟩ := sf_of hA2 (hts _ sr_46) (flat_of_before _ hgv _ se_46)
  obtain ⟨sq48, sv48⟩ := sf_of hA2 (hts _ sr_48) (flat_of_before _ hgv _ se_48)
  have hSX : SXA A s := ⟨sq40, sq42, sq44, sq46, sq48, sv40, sv42, sv44, sv46, sv48⟩
  have hC : CX p s m meth c ⟨RL, meth.name, ""⟩ cL_law 4 ret #[Value.ref b] := ⟨hx, hb, hr, hml, hB, hown, hlocks, rfl⟩
  have hS : va_S A s.heap s.heap [] := va_S.rf
  have hP : va_P G.1 vwCl [] s.heap := fun k q h => by simp at h
  have hD : va_D A [] := ⟨fun i j p q h => by simp at h, fun k q h => by simp at h⟩
  rw [lg_entry_eq]
  have hl := lv_entry ([.ref b]) (n := 4) (Nat.le_of_ble_eq_true rfl)
  generalize (lg_sl ([Value.ref b]) ++ List.replicate (4 - (lg_sl ([Value.ref b])).length) Slot.unset).toArray = ls at hl ⊢
  have hl : lv_has ls 4 [(0, .ref b)] := hl
  refine nw_L_7 hC rfl hK hP hD hS hA (Nat.le_of_ble_eq_true rfl) (Nat.le_of_ble_eq_true rfl) dL_law_0 (fun q1915 H hP hD hS => ?_)
  have hP : va_P G.1 vwCl [(q1915, .inr (11, [.null, .null, .int 0, .null, .null, .null, .null, .null, .null, .null, .null]))] H := hP
  have hD : va_D A [(q1915, .inr (11, [.null, .null, .int 0, .null, .null, .null, .null, .null, .null, .null, .null]))] := hD
  refine Wcast (c1 := 1) (s1 := 11) rfl rfl ?_
  refine lv_dup hx hb dL_law_3 rfl ?_
  refine vI (wr := []) hC hK hl hP hD hS hA (c_init l G q1915) si_L_9 [0] [] rfl rfl (by decide) rfl (by decide) (by decide) rfl rfl (Nat.le_of_ble_eq_true rfl) ⟨Nat.le_of_ble_eq_true rfl, Nat.le_of_ble_eq_true rfl⟩ ⟨by first | exact Nat.le_of_ble_eq_true rfl | omega, by first | exact Nat.le_of_ble_eq_true rfl | omega⟩ dL_law_4 (fun u1917 H locs hr1916 hP hD hS => ?_)
  obtain ⟨ad1918, hf1919⟩ := u1917
  dsimp only at hr1916
  have hP : va_P G.1 vwCl [(q1915, .inr (11, [.ref (ad1918 0), .ref (ad1918 1), .int 0, .ref (ad1918 2), .ref (ad1918 3), .ref (ad1918 4), .ref (ad1918 5), .ref (ad1918 6), .ref (ad1918 7), .ref (ad1918 8), .ref (ad1918 9)])), ((ad1918 0), .inr (0, [.ref (ad1918 10), .ref (ad1918 11), .ref (ad1918 12), .ref (ad1918 13), .ref (ad1918 14), .ref (ad1918 15), .ref (ad1918 16), .ref (ad1918 17), .ref (ad1918 18), .ref (ad1918 19), .int 0, .int (-1), .int 3, .int 24])), ((ad1918 10), .inr (8, [.int 10, .int 2, .ref (ad1918 20), .int 0])), ((ad1918 20), .inl (G.2.1, 20, .inl (fun _ => 0))), ((ad1918 11), .inr (8, [.int 12, .int 6, .ref (ad1918 21), .int 0])), ((ad1918 21), .inl (G.2.1, 72, .inl (fun _ => 0))), ((ad1918 12), .inr (8, [.int 24, .int 3, .ref (ad1918 22), .int 0])), ((ad1918 22), .inl (G.2.1, 72, .inl (fun _ => 0))), ((ad1918 13), .inr (8, [.int 8, .int 3, .ref (ad1918 23), .int 0])), ((ad1918 23), .inl (G.2.1, 24, .inl (fun _ => 0))), ((ad1918 14), .inr (8, [.int 72, .int 7, .ref (ad1918 24), .int 0])), ((ad1918 24), .inl (G.2.1, 504, .inl (fun _ => 0))), ((ad1918 15), .inr (8, [.int 960, .int 1, .ref (ad1918 25), .int 0])), ((ad1918 25), .inl (G.2.1, 960, .inl (fun _ => 0))), ((ad1918 16), .inr (8, [.int 16, .int 8, .ref (ad1918 26), .int 0])), ((ad1918 26), .inl (G.2.1, 128, .inl (fun _ => 0))), ((ad1918 17), .inr (8, [.int 12, .int 4, .ref (ad1918 27), .int 0])), ((ad1918 27), .inl (G.2.1, 48, .inl (fun _ => 0))), ((ad1918 18), .inr (8, [.int 16, .int 3, .ref (ad1918 28), .int 0])), ((ad1918 28), .inl (G.2.1, 48, .inl (fun _ => 0))), ((ad1918 19), .inr (8, [.int 7, .int 2, .ref (ad1918 29), .int 0])), ((ad1918 29), .inl (G.2.1, 14, .inl (fun _ => 0))), ((ad1918 1), .inr (0, [.ref (ad1918 30), .ref (ad1918 31), .ref (ad1918 32), .ref (ad1918 33), .ref (ad1918 34), .ref (ad1918 35), .ref (ad1918 36), .ref (ad1918 37), .ref (ad1918 38), .ref (ad1918 39), .int 0, .int (-1), .int 3, .int 24])), ((ad1918 30), .inr (8, [.int 10, .int 2, .ref (ad1918 40), .int 0])), ((ad1918 40), .inl (G.2.1, 20, .inl (fun _ => 0))), ((ad1918 31), .inr (8, [.int 12, .int 6, .ref (ad1918 41), .int 0])), ((ad1918 41), .inl (G.2.1, 72, .inl (fun _ => 0))), ((ad1918 32), .inr (8, [.int 24, .int 3, .ref (ad1918 42), .int 0])), ((ad1918 42), .inl (G.2.1, 72, .inl (fun _ => 0))), ((ad1918 33), .inr (8, [.int 8, .int 3, .ref (ad1918 43), .int 0])), ((ad1918 43), .inl (G.2.1, 24, .inl (fun _ => 0))), ((ad1918 34), .inr (8, [.int 72, .int 7, .ref (ad1918 44), .int 0])), ((ad1918 44), .inl (G.2.1, 504, .inl (fun _ => 0))), ((ad1918 35), .inr (8, [.int 960, .int 1, .ref (ad1918 45), .int 0])), ((ad1918 45), .inl (G.2.1, 960, .inl (fun _ => 0))), ((ad1918 36), .inr (8, [.int 16, .int 8, .ref (ad1918 46), .int 0])), ((ad1918 46), .inl (G.2.1, 128, .inl (fun _ => 0))), ((ad1918 37), .inr (8, [.int 12, .int 4, .ref (ad1918 47), .int 0])), ((ad1918 47), .inl (G.2.1, 48, .inl (fun _ => 0))), ((ad1918 38), .inr (8, [.int 16, .int 3, .ref (ad1918 48), .int 0])), ((ad1918 48), .inl (G.2.1, 48, .inl (fun _ => 0))), ((ad1918 39), .inr (8, [.int 7, .int 2, .ref (ad1918 49), .int 0])), ((ad1918 49), .inl (G.2.1, 14, .inl (fun _ => 0))), ((ad1918 2), .inr (7, [.ref (ad1918 0), .ref (ad1918 50), .ref (ad1918 51), .ref (ad1918 52), .ref (ad1918 53), .ref (ad1918 54), .ref (ad1918 55), .ref (ad1918 56), .int 0])), ((ad1918 50), .inr (1, [.ref (ad1918 57)])), ((ad1918 57), .inl (G.2.1, 36, .inl (fun _ => 0))), ((ad1918 51), .inl (G.2.1, 12, .inl (fun _ => 0))), ((ad1918 52), .inl (G.2.1, 12, .inl (fun _ => 0))), ((ad1918 53), .inl (G.2.1, 12, .inl (fun _ => 0))), ((ad1918 54), .inl (G.2.1, 12, .inl (fun _ => 0))), ((ad1918 55), .inl (G.2.1, 12, .inl (fun _ => 0))), ((ad1918 56), .inl (G.2.1, 12, .inl (fun _ => 0))), ((ad1918 3), .inr (3, [.ref (ad1918 0), .ref (ad1918 58), .int 0, .int 0, .int 0])), ((ad1918 58), .inl (G.2.2.1, 13, .inr (.inr (.inr (.inr hf1919))))), ((ad1918 59), .inr (1, [.ref (ad1918 60)])), ((ad1918 60), .inl (G.2.1, 36, .inl (fun _ => 0))), ((ad1918 5), .inr (9, [.ref (ad1918 0), .ref (ad1918 2), .int 0, .int 0, .int 0, .int 0])), ((ad1918 6), .inr (10, [.ref (ad1918 61), .int 0, .ref (ad1918 62), .ref (ad1918 63), .int (-1), .int 0, .int 0, .int (-1)])), ((ad1918 61), .inl (G.2.1, 240, .inl (fun _ => 0))), ((ad1918 62), .inr (8, [.int 9, .int 7, .ref (ad1918 64), .int 0])), ((ad1918 64), .inl (G.2.1, 63, .inl (fun _ => 0))), ((ad1918 63), .inr (8, [.int 120, .int 1, .ref (ad1918 65), .int 0])), ((ad1918 65), .inl (G.2.1, 120, .inl (fun _ => 0))), ((ad1918 7), .inr (5, [.ref (ad1918 0), .ref (ad1918 66), .ref (ad1918 67), .int 0, .int 0, .int 0])), ((ad1918 66), .inr (8, [.int 7, .int 2, .ref (ad1918 68), .int 0])), ((ad1918 68), .inl (G.2.1, 14, .inl (fun _ => 0))), ((ad1918 8), .inr (4, [.ref (ad1918 69), .ref (ad1918 70), .ref (ad1918 71), .ref (ad1918 72), .ref (ad1918 73), .ref (ad1918 74)])), ((ad1918 69), .inl (G.2.1, 4, .inl (upd (upd (upd (upd (fun _ => 0) 0 (-1)) 1 (-1)) 2 (-1)) 3 (-1)))), ((ad1918 70), .inl (G.2.1, 4, .inl (fun _ => 0))), ((ad1918 71), .inl (G.2.1, 160, .inl (fun _ => 0))), ((ad1918 72), .inl (G.2.1, 4, .inl (upd (upd (upd (upd (fun _ => 0) 0 4) 1 4) 2 4) 3 4))), ((ad1918 73), .inl (G.2.1, 4, .inl (fun _ => 0))), ((ad1918 74), .inl (G.2.1, 4, .inl (fun _ => 0))), ((ad1918 9), .inr (2, [.ref (ad1918 0), .ref (ad1918 75), .int 0, .int 0, .int 0, .int 0, .int 0, .int 0]))] H := hP
  have hD : va_D A [(q1915, .inr (11, [.ref (ad1918 0), .ref (ad1918 1), .int 0, .ref (ad1918 2), .ref (ad1918 3), .ref (ad1918 4), .ref (ad1918 5), .ref (ad1918 6), .ref (ad1918 7), .ref (ad1918 8), .ref (ad1918 9)])), ((ad1918 0), .inr (0, [.ref (ad1918 10), .ref (ad1918 11), .ref (ad1918 12), .ref (ad1918 13), .ref (ad1918 14), .ref (ad1918 15), .ref (ad1918 16), .ref (ad1918 17), .ref (ad1918 18), .ref (ad1918 19), .int 0, .int (-1), .int 3, .int 24])), ((ad1918 10), .inr (8, [.int 10, .int 2, .ref (ad1918 20), .int 0])), ((ad1918 20), .inl (G.2.1, 20, .inl (fun _ => 0))), ((ad1918 11), .inr (8, [.int 12, .int 6, .ref (ad1918 21), .int 0])), ((ad1918 21), .inl (G.2.1, 72, .inl (fun _ => 0))), ((ad1918 12), .inr (8, [.int 24, .int 3, .ref (ad1918 22), .int 0])), ((ad1918 22), .inl (G.2.1, 72, .inl (fun _ => 0))), ((ad1918 13), .inr (8, [.int 8, .int 3, .ref (ad1918 23), .int 0])), ((ad1918 23), .inl (G.2.1, 24, .inl (fun _ => 0))), ((ad1918 14), .inr (8, [.int 72, .int 7, .ref (ad1918 24), .int 0])), ((ad1918 24), .inl (G.2.1, 504, .inl (fun _ => 0))), ((ad1918 15), .inr (8, [.int 960, .int 1, .ref (ad1918 25), .int 0])), ((ad1918 25), .inl (G.2.1, 960, .inl (fun _ => 0))), ((ad1918 16), .inr (8, [.int 16, .int 8, .ref (ad1918 26), .int 0])), ((ad1918 26), .inl (G.2.1, 128, .inl (fun _ => 0))), ((ad1918 17), .inr (8, [.int 12, .int 4, .ref (ad1918 27), .int 0])), ((ad1918 27), .inl (G.2.1, 48, .inl (fun _ => 0))), ((ad1918 18), .inr (8, [.int 16, .int 3, .ref (ad1918 28), .int 0])), ((ad1918 28), .inl (G.2.1, 48, .inl (fun _ => 0))), ((ad1918 19), .inr (8, [.int 7, .int 2, .ref (ad1918 29), .int 0])), ((ad1918 29), .inl (G.2.1, 14, .inl (fun _ => 0))), ((ad1918 1), .inr (0, [.ref (ad1918 30), .ref (ad1918 31), .ref (ad1918 32), .ref (ad1918 33), .ref (ad1918 34), .ref (ad1918 35), .ref (ad1918 36), .ref (ad1918 37), .ref (ad1918 38), .ref (ad1918 39), .int 0, .int (-1), .int 3, .int 24])), ((ad1918 30), .inr (8, [.int 10, .int 2, .ref (ad1918 40), .int 0])), ((ad1918 40), .inl (G.2.1, 20, .inl (fun _ => 0))), ((ad1918 31), .inr (8, [.int 12, .int 6, .ref (ad1918 41), .int 0])), ((ad1918 41), .inl (G.2.1, 72, .inl (fun _ => 0))), ((ad1918 32), .inr (8, [.int 24, .int 3, .ref (ad1918 42), .int 0])), ((ad1918 42), .inl (G.2.1, 72, .inl (fun _ => 0))), ((ad1918 33), .inr (8, [.int 8, .int 3, .ref (ad1918 43), .int 0])), ((ad1918 43), .inl (G.2.1, 24, .inl (fun _ => 0))), ((ad1918 34), .inr (8, [.int 72, .int 7, .ref (ad1918 44), .int 0])), ((ad1918 44), .inl (G.2.1, 504, .inl (fun _ => 0))), ((ad1918 35), .inr (8, [.int 960, .int 1, .ref (ad1918 45), .int 0])), ((ad1918 45), .inl (G.2.1, 960, .inl (fun _ => 0))), ((ad1918 36), .inr (8, [.int 16, .int 8, .ref (ad1918 46), .int 0])), ((ad1918 46), .inl (G.2.1, 128, .inl (fun _ => 0))), ((ad1918 37), .inr (8, [.int 12, .int 4, .ref (ad1918 47), .int 0])), ((ad1918 47), .inl (G.2.1, 48, .inl (fun _ => 0))), ((ad1918 38), .inr (8, [.int 16, .int 3, .ref (ad1918 48), .int 0])), ((ad1918 48), .inl (G.2.1, 48, .inl (fun _ => 0))), ((ad1918 39), .inr (8, [.int 7, .int 2, .ref (ad1918 49), .int 0])), ((ad1918 49), .inl (G.2.1, 14, .inl (fun _ => 0))), ((ad1918 2), .inr (7, [.ref (ad1918 0), .ref (ad1918 50), .ref (ad1918 51), .ref (ad1918 52), .ref (ad1918 53), .ref (ad1918 54), .ref (ad1918 55), .ref (ad1918 56), .int 0])), ((ad1918 50), .inr (1, [.ref (ad1918 57)])), ((ad1918 57), .inl (G.2.1, 36, .inl (fun _ => 0))), ((ad1918 51), .inl (G.2.1, 12, .inl (fun _ => 0))), ((ad1918 52), .inl (G.2.1, 12, .inl (fun _ => 0))), ((ad1918 53), .inl (G.2.1, 12, .inl (fun _ => 0))), ((ad1918 54), .inl (G.2.1, 12, .inl (fun _ => 0))), ((ad1918 55), .inl (G.2.1, 12, .inl (fun _ => 0))), ((ad1918 56), .inl (G.2.1, 12, .inl (fun _ => 0))), ((ad1918 3), .inr (3, [.ref (ad1918 0), .ref (ad1918 58), .int 0, .int 0, .int 0])), ((ad1918 58), .inl (G.2.2.1, 13, .inr (.inr (.inr (.inr hf1919))))), ((ad1918 59), .inr (1, [.ref (ad1918 60)])), ((ad1918 60), .inl (G.2.1, 36, .inl (fun _ => 0))), ((ad1918 5), .inr (9, [.ref (ad1918 0), .ref (ad1918 2), .int 0, .int 0, .int 0, .int 0])), ((ad1918 6), .inr (10, [.ref (ad1918 61), .int 0, .ref (ad1918 62), .ref (ad1918 63), .int (-1), .int 0, .int 0, .int (-1)])), ((ad1918 61), .inl (G.2.1, 240, .inl (fun _ => 0))), ((ad1918 62), .inr (8, [.int 9, .int 7, .ref (ad1918 64), .int 0])), ((ad1918 64), .inl (G.2.1, 63, .inl (fun _ => 0))), ((ad1918 63), .inr (8, [.int 120, .int 1, .ref (ad1918 65), .int 0])), ((ad1918 65), .inl (G.2.1, 120, .inl (fun _ => 0))), ((ad1918 7), .inr (5, [.ref (ad1918 0), .ref (ad1918 66), .ref (ad1918 67), .int 0, .int 0, .int 0])), ((ad1918 66), .inr (8, [.int 7, .int 2, .ref (ad1918 68), .int 0])), ((ad1918 68), .inl (G.2.1, 14, .inl (fun _ => 0))), ((ad1918 8), .inr (4, [.ref (ad1918 69), .ref (ad1918 70), .ref (ad1918 71), .ref (ad1918 72), .ref (ad1918 73), .ref (ad1918 74)])), ((ad1918 69), .inl (G.2.1, 4, .inl (upd (upd (upd (upd (fun _ => 0) 0 (-1)) 1 (-1)) 2 (-1)) 3 (-1)))), ((ad1918 70), .inl (G.2.1, 4, .inl (fun _ => 0))), ((ad1918 71), .inl (G.2.1, 160, .inl (fun _ => 0))), ((ad1918 72), .inl (G.2.1, 4, .inl (upd (upd (upd (upd (fun _ => 0) 0 4) 1 4) 2 4) 3 4))), ((ad1918 73), .inl (G.2.1, 4, .inl (fun _ => 0))), ((ad1918 74), .inl (G.2.1, 4, .inl (fun _ => 0))), ((ad1918 9), .inr (2, [.ref (ad1918 0), .ref (ad1918 75), .int 0, .int 0, .int 0, .int 0, .int 0, .int 0]))] := hD
  refine Wcast (c1 := 103) (s1 := 5357) rfl rfl ?_
  have w1920 := hr1916
  refine lv_astore_n (lv' := [(1, .ref q1915), (0, .ref b)]) hx hb dL_law_7 rfl hl (by decide) rfl (fun ls hl => ?_)
  refine nw_L_10 hC rfl hK hP hD hS hA (Nat.le_of_ble_eq_true rfl) (Nat.le_of_ble_eq_true rfl) dL_law_8 (fun q1921 H hP hD hS => ?_)
  have hP : va_P G.1 vwCl [(q1915, .inr (11, [.ref (ad1918 0), .ref (ad1918 1), .int 0, .ref (ad1918 2), .ref (ad1918 3), .ref (ad1918 4), .ref (ad1918 5), .ref (ad1918 6), .ref (ad1918 7), .ref (ad1918 8), .ref (ad1918 9)])), ((ad1918 0), .inr (0, [.ref (ad1918 10), .ref (ad1918 11), .ref (ad1918 12), .ref (ad1918 13), .ref (ad1918 14), .ref (ad1918 15), .ref (ad1918 16), .ref (ad1918 17), .ref (ad1918 18), .ref (ad1918 19), .int 0, .int (-1), .int 3, .int 24])), ((ad1918 10), .inr (8, [.int 10, .int 2, .ref (ad1918 20), .int 0])), ((ad1918 20), .inl (G.2.1, 20, .inl (fun _ => 0))), ((ad1918 11), .inr (8, [.int 12, .int 6, .ref (ad1918 21), .int 0])), ((ad1918 21), .inl (G.2.1, 72, .inl (fun _ => 0))), ((ad1918 12), .inr (8, [.int 24, .int 3, .ref (ad1918 22), .int 0])), ((ad1918 22), .inl (G.2.1, 72, .inl (fun _ => 0))), ((ad1918 13), .inr (8, [.int 8, .int 3, .ref (ad1918 23), .int 0])), ((ad1918 23), .inl (G.2.1, 24, .inl (fun _ => 0))), ((ad1918 14), .inr (8, [.int 72, .int 7, .ref (ad1918 24), .int 0])), ((ad1918 24), .inl (G.2.1, 504, .inl (fun _ => 0))), ((ad1918 15), .inr (8, [.int 960, .int 1, .ref (ad1918 25), .int 0])), ((ad1918 25), .inl (G.2.1, 960, .inl (fun _ => 0))), ((ad1918 16), .inr (8, [.int 16, .int 8, .ref (ad1918 26), .int 0])), ((ad1918 26), .inl (G.2.1, 128, .inl (fun _ => 0))), ((ad1918 17), .inr (8, [.int 12, .int 4, .ref (ad1918 27), .int 0])), ((ad1918 27), .inl (G.2.1, 48, .inl (fun _ => 0))), ((ad1918 18), .inr (8, [.int 16, .int 3, .ref (ad1918 28), .int 0])), ((ad1918 28), .inl (G.2.1, 48, .inl (fun _ => 0))), ((ad1918 19), .inr (8, [.int 7, .int 2, .ref (ad1918 29), .int 0])), ((ad1918 29), .inl (G.2.1, 14, .inl (fun _ => 0))), ((ad1918 1), .inr (0, [.ref (ad1918 30), .ref (ad1918 31), .ref (ad1918 32), .ref (ad1918 33), .ref (ad1918 34), .ref (ad1918 35), .ref (ad1918 36), .ref (ad1918 37), .ref (ad1918 38), .ref (ad1918 39), .int 0, .int (-1), .int 3, .int 24])), ((ad1918 30), .inr (8, [.int 10, .int 2, .ref (ad1918 40), .int 0])), ((ad1918 40), .inl (G.2.1, 20, .inl (fun _ => 0))), ((ad1918 31), .inr (8, [.int 12, .int 6, .ref (ad1918 41), .int 0])), ((ad1918 41), .inl (G.2.1, 72, .inl (fun _ => 0))), ((ad1918 32), .inr (8, [.int 24, .int 3, .ref (ad1918 42), .int 0])), ((ad1918 42), .inl (G.2.1, 72, .inl (fun _ => 0))), ((ad1918 33), .inr (8, [.int 8, .int 3, .ref (ad1918 43), .int 0])), ((ad1918 43), .inl (G.2.1, 24, .inl (fun _ => 0))), ((ad1918 34), .inr (8, [.int 72, .int 7, .ref (ad1918 44), .int 0])), ((ad1918 44), .inl (G.2.1, 504, .inl (fun _ => 0))), ((ad1918 35), .inr (8, [.int 960, .int 1, .ref (ad1918 45), .int 0])), ((ad1918 45), .inl (G.2.1, 960, .inl (fun _ => 0))), ((ad1918 36), .inr (8, [.int 16, .int 8, .ref (ad1918 46), .int 0])), ((ad1918 46), .inl (G.2.1, 128, .inl (fun _ => 0))), ((ad1918 37), .inr (8, [.int 12, .int 4, .ref (ad1918 47), .int 0])), ((ad1918 47), .inl (G.2.1, 48, .inl (fun _ => 0))), ((ad1918 38), .inr (8, [.int 16, .int 3, .ref (ad1918 48), .int 0])), ((ad1918 48), .inl (G.2.1, 48, .inl (fun _ => 0))), ((ad1918 39), .inr (8, [.int 7, .int 2, .ref (ad1918 49), .int 0])), ((ad1918 49), .inl (G.2.1, 14, .inl (fun _ => 0))), ((ad1918 2), .inr (7, [.ref (ad1918 0), .ref (ad1918 50), .ref (ad1918 51), .ref (ad1918 52), .ref (ad1918 53), .ref (ad1918 54), .ref (ad1918 55), .ref (ad1918 56), .int 0])), ((ad1918 50), .inr (1, [.ref (ad1918 57)])), ((ad1918 57), .inl (G.2.1, 36, .inl (fun _ => 0))), ((ad1918 51), .inl (G.2.1, 12, .inl (fun _ => 0))), ((ad1918 52), .inl (G.2.1, 12, .inl (fun _ => 0))), ((ad1918 53), .inl (G.2.1, 12, .inl (fun _ => 0))), ((ad1918 54), .inl (G.2.1, 12, .inl (fun _ => 0))), ((ad1918 55), .inl (G.2.1, 12, .inl (fun _ => 0))), ((ad1918 56), .inl (G.2.1, 12, .inl (fun _ => 0))), ((ad1918 3), .inr (3, [.ref (ad1918 0), .ref (ad1918 58), .int 0, .int 0, .int 0])), ((ad1918 58), .inl (G.2.2.1, 13, .inr (.inr (.inr (.inr hf1919))))), ((ad1918 59), .inr (1, [.ref (ad1918 60)])), ((ad1918 60), .inl (G.2.1, 36, .inl (fun _ => 0))), ((ad1918 5), .inr (9, [.ref (ad1918 0), .ref (ad1918 2), .int 0, .int 0, .int 0, .int 0])), ((ad1918 6), .inr (10, [.ref (ad1918 61), .int 0, .ref (ad1918 62), .ref (ad1918 63), .int (-1), .int 0, .int 0, .int (-1)])), ((ad1918 61), .inl (G.2.1, 240, .inl (fun _ => 0))), ((ad1918 62), .inr (8, [.int 9, .int 7, .ref (ad1918 64), .int 0])), ((ad1918 64), .inl (G.2.1, 63, .inl (fun _ => 0))), ((ad1918 63), .inr (8, [.int 120, .int 1, .ref (ad1918 65), .int 0])), ((ad1918 65), .inl (G.2.1, 120, .inl (fun _ => 0))), ((ad1918 7), .inr (5, [.ref (ad1918 0), .ref (ad1918 66), .ref (ad1918 67), .int 0, .int 0, .int 0])), ((ad1918 66), .inr (8, [.int 7, .int 2, .ref (ad1918 68), .int 0])), ((ad1918 68), .inl (G.2.1, 14, .inl (fun _ => 0))), ((ad1918 8), .inr (4, [.ref (ad1918 69), .ref (ad1918 70), .ref (ad1918 71), .ref (ad1918 72), .ref (ad1918 73), .ref (ad1918 74)])), ((ad1918 69), .inl (G.2.1, 4, .inl (upd (upd (upd (upd (fun _ => 0) 0 (-1)) 1 (-1)) 2 (-1)) 3 (-1)))), ((ad1918 70), .inl (G.2.1, 4, .inl (fun _ => 0))), ((ad1918 71), .inl (G.2.1, 160, .inl (fun _ => 0))), ((ad1918 72), .inl (G.2.1, 4, .inl (upd (upd (upd (upd (fun _ => 0) 0 4) 1 4) 2 4) 3 4))), ((ad1918 73), .inl (G.2.1, 4, .inl (fun _ => 0))), ((ad1918 74), .inl (G.2.1, 4, .inl (fun _ => 0))), ((ad1918 9), .inr (2, [.ref (ad1918 0), .ref (ad1918 75), .int 0, .int 0, .int 0, .int 0, .int 0, .int 0])), (q1921, .inr (12, [.null, .null, .int 0, .null, .int 0, .null, .int 0, .int 0, .int 0, .int 0, .null, .int 0, .int 0, .null, .int 0, .int 0, .int 0, .int 0, .int 0, .int 0, .int 0, .null, .null, .null, .null, .null, .null, .int 0, .null, .null, .null, .null, .null, .null, .null, .int 0, .int 0, .int 0, .int 0, .int 0, .int 0]))] H := hP
  have hD : va_D A [(q1915, .inr (11, [.ref (ad1918 0), .ref (ad1918 1), .int 0, .ref (ad1918 2), .ref (ad1918 3), .ref (ad1918 4), .ref (ad1918 5), .ref (ad1918 6), .ref (ad1918 7), .ref (ad1918 8), .ref (ad1918 9)])), ((ad1918 0), .inr (0, [.ref (ad1918 10), .ref (ad1918 11), .ref (ad1918 12), .ref (ad1918 13), .ref (ad1918 14), .ref (ad1918 15), .ref (ad1918 16), .ref (ad1918 17), .ref (ad1918 18), .ref (ad1918 19), .int 0, .int (-1), .int 3, .int 24])), ((ad1918 10), .inr (8, [.int 10, .int 2, .ref (ad1918 20), .int 0])), ((ad1918 20), .inl (G.2.1, 20, .inl (fun _ => 0))), ((ad1918 11), .inr (8, [.int 12, .int 6, .ref (ad1918 21), .int 0])), ((ad1918 21), .inl (G.2.1, 72, .inl (fun _ => 0))), ((ad1918 12), .inr (8, [.int 24, .int 3, .ref (ad1918 22), .int 0])), ((ad1918 22), .inl (G.2.1, 72, .inl (fun _ => 0))), ((ad1918 13), .inr (8, [.int 8, .int 3, .ref (ad1918 23), .int 0])), ((ad1918 23), .inl (G.2.1, 24, .inl (fun _ => 0))), ((ad1918 14), .inr (8, [.int 72, .int 7, .ref (ad1918 24), .int 0])), ((ad1918 24), .inl (G.2.1, 504, .inl (fun _ => 0))), ((ad1918 15), .inr (8, [.int 960, .int 1, .ref (ad1918 25), .int 0])), ((ad1918 25), .inl (G.2.1, 960, .inl (fun _ => 0))), ((ad1918 16), .inr (8, [.int 16, .int 8, .ref (ad1918 26), .int 0])), ((ad1918 26), .inl (G.2.1, 128, .inl (fun _ => 0))), ((ad1918 17), .inr (8, [.int 12, .int 4, .ref (ad1918 27), .int 0])), ((ad1918 27), .inl (G.2.1, 48, .inl (fun _ => 0))), ((ad1918 18), .inr (8, [.int 16, .int 3, .ref (ad1918 28), .int 0])), ((ad1918 28), .inl (G.2.1, 48, .inl (fun _ => 0))), ((ad1918 19), .inr (8, [.int 7, .int 2, .ref (ad1918 29), .int 0])), ((ad1918 29), .inl (G.2.1, 14, .inl (fun _ => 0))), ((ad1918 1), .inr (0, [.ref (ad1918 30), .ref (ad1918 31), .ref (ad1918 32), .ref (ad1918 33), .ref (ad1918 34), .ref (ad1918 35), .ref (ad1918 36), .ref (ad1918 37), .ref (ad1918 38), .ref (ad1918 39), .int 0, .int (-1), .int 3, .int 24])), ((ad1918 30), .inr (8, [.int 10, .int 2, .ref (ad1918 40), .int 0])), ((ad1918 40), .inl (G.2.1, 20, .inl (fun _ => 0))), ((ad1918 31), .inr (8, [.int 12, .int 6, .ref (ad1918 41), .int 0])), ((ad1918 41), .inl (G.2.1, 72, .inl (fun _ => 0))), ((ad1918 32), .inr (8, [.int 24, .int 3, .ref (ad1918 42), .int 0])), ((ad1918 42), .inl (G.2.1, 72, .inl (fun _ => 0))), ((ad1918 33), .inr (8, [.int 8, .int 3, .ref (ad1918 43), .int 0])), ((ad1918 43), .inl (G.2.1, 24, .inl (fun _ => 0))), ((ad1918 34), .inr (8, [.int 72, .int 7, .ref (ad1918 44), .int 0])), ((ad1918 44), .inl (G.2.1, 504, .inl (fun _ => 0))), ((ad1918 35), .inr (8, [.int 960, .int 1, .ref (ad1918 45), .int 0])), ((ad1918 45), .inl (G.2.1, 960, .inl (fun _ => 0))), ((ad1918 36), .inr (8, [.int 16, .int 8, .ref (ad1918 46), .int 0])), ((ad1918 46), .inl (G.2.1, 128, .inl (fun _ => 0))), ((ad1918 37), .inr (8, [.int 12, .int 4, .ref (ad1918 47), .int 0])), ((ad1918 47), .inl (G.2.1, 48, .inl (fun _ => 0))), ((ad1918 38), .inr (8, [.int 16, .int 3, .ref (ad1918 48), .int 0])), ((ad1918 48), .inl (G.2.1, 48, .inl (fun _ => 0))), ((ad1918 39), .inr (8, [.int 7, .int 2, .ref (ad1918 49), .int 0])), ((ad1918 49), .inl (G.2.1, 14, .inl (fun _ => 0))), ((ad1918 2), .inr (7, [.ref (ad1918 0), .ref (ad1918 50), .ref (ad1918 51), .ref (ad1918 52), .ref (ad1918 53), .ref (ad1918 54), .ref (ad1918 55), .ref (ad1918 56), .int 0])), ((ad1918 50), .inr (1, [.ref (ad1918 57)])), ((ad1918 57), .inl (G.2.1, 36, .inl (fun _ => 0))), ((ad1918 51), .inl (G.2.1, 12, .inl (fun _ => 0))), ((ad1918 52), .inl (G.2.1, 12, .inl (fun _ => 0))), ((ad1918 53), .inl (G.2.1, 12, .inl (fun _ => 0))), ((ad1918 54), .inl (G.2.1, 12, .inl (fun _ => 0))), ((ad1918 55), .inl (G.2.1, 12, .inl (fun _ => 0))), ((ad1918 56), .inl (G.2.1, 12, .inl (fun _ => 0))), ((ad1918 3), .inr (3, [.ref (ad1918 0), .ref (ad1918 58), .int 0, .int 0, .int 0])), ((ad1918 58), .inl (G.2.2.1, 13, .inr (.inr (.inr (.inr hf1919))))), ((ad1918 59), .inr (1, [.ref (ad1918 60)])), ((ad1918 60), .inl (G.2.1, 36, .inl (fun _ => 0))), ((ad1918 5), .inr (9, [.ref (ad1918 0), .ref (ad1918 2), .int 0, .int 0, .int 0, .int 0])), ((ad1918 6), .inr (10, [.ref (ad1918 61), .int 0, .ref (ad1918 62), .ref (ad1918 63), .int (-1), .int 0, .int 0, .int (-1)])), ((ad1918 61), .inl (G.2.1, 240, .inl (fun _ => 0))), ((ad1918 62), .inr (8, [.int 9, .int 7, .ref (ad1918 64), .int 0])), ((ad1918 64), .inl (G.2.1, 63, .inl (fun _ => 0))), ((ad1918 63), .inr (8, [.int 120, .int 1, .ref (ad1918 65), .int 0])), ((ad1918 65), .inl (G.2.1, 120, .inl (fun _ => 0))), ((ad1918 7), .inr (5, [.ref (ad1918 0), .ref (ad1918 66), .ref (ad1918 67), .int 0, .int 0, .int 0])), ((ad1918 66), .inr (8, [.int 7, .int 2, .ref (ad1918 68), .int 0])), ((ad1918 68), .inl (G.2.1, 14, .inl (fun _ => 0))), ((ad1918 8), .inr (4, [.ref (ad1918 69), .ref (ad1918 70), .ref (ad1918 71), .ref (ad1918 72), .ref (ad1918 73), .ref (ad1918 74)])), ((ad1918 69), .inl (G.2.1, 4, .inl (upd (upd (upd (upd (fun _ => 0) 0 (-1)) 1 (-1)) 2 (-1)) 3 (-1)))), ((ad1918 70), .inl (G.2.1, 4, .inl (fun _ => 0))), ((ad1918 71), .inl (G.2.1, 160, .inl (fun _ => 0))), ((ad1918 72), .inl (G.2.1, 4, .inl (upd (upd (upd (upd (fun _ => 0) 0 4) 1 4) 2 4) 3 4))), ((ad1918 73), .inl (G.2.1, 4, .inl (fun _ => 0))), ((ad1918 74), .inl (G.2.1, 4, .inl (fun _ => 0))), ((ad1918 9), .inr (2, [.ref (ad1918 0), .ref (ad1918 75), .int 0, .int 0, .int 0, .int 0, .int 0, .int 0])), (q1921, .inr (12, [.null, .null, .int 0, .null, .int 0, .null, .int 0, .int 0, .int 0, .int 0, .null, .int 0, .int 0, .null, .int 0, .int 0, .int 0, .int 0, .int 0, .int 0, .int 0, .null, .null, .null, .null, .null, .null, .int 0, .null, .null, .null, .null, .null, .null, .null, .int 0, .int 0, .int 0, .int 0, .int 0, .int 0]))] := hD
  refine Wcast (c1 := 104) (s1 := 5398) rfl rfl ?_
  refine lv_dup hx hb dL_law_11 rfl ?_
  refine vIS (wr := [(q1915, .inr (11, [.ref (ad1918 0), .ref (ad1918 1), .int 0, .ref (ad1918 2), .ref (ad1918 3), .ref (ad1918 4), .ref (ad1918 5), .ref (ad1918 6), .ref (ad1918 7), .ref (ad1918 8), .ref (ad1918 9)])), ((ad1918 0), .inr (0, [.ref (ad1918 10), .ref (ad1918 11), .ref (ad1918 12), .ref (ad1918 13), .ref (ad1918 14), .ref (ad1918 15), .ref (ad1918 16), .ref (ad1918 17), .ref (ad1918 18), .ref (ad1918 19), .int 0, .int (-1), .int 3, .int 24])), ((ad1918 10), .inr (8, [.int 10, .int 2, .ref (ad1918 20), .int 0])), ((ad1918 20), .inl (G.2.1, 20, .inl (fun _ => 0))), ((ad1918 11), .inr (8, [.int 12, .int 6, .ref (ad1918 21), .int 0])), ((ad1918 21), .inl (G.2.1, 72, .inl (fun _ => 0))), ((ad1918 12), .inr (8, [.int 24, .int 3, .ref (ad1918 22), .int 0])), ((ad1918 22), .inl (G.2.1, 72, .inl (fun _ => 0))), ((ad1918 13), .inr (8, [.int 8, .int 3, .ref (ad1918 23), .int 0])), ((ad1918 23), .inl (G.2.1, 24, .inl (fun _ => 0))), ((ad1918 14), .inr (8, [.int 72, .int 7, .ref (ad1918 24), .int 0])), ((ad1918 24), .inl (G.2.1, 504, .inl (fun _ => 0))), ((ad1918 15), .inr (8, [.int 960, .int 1, .ref (ad1918 25), .int 0])), ((ad1918 25), .inl (G.2.1, 960, .inl (fun _ => 0))), ((ad1918 16), .inr (8, [.int 16, .int 8, .ref (ad1918 26), .int 0])), ((ad1918 26), .inl (G.2.1, 128, .inl (fun _ => 0))), ((ad1918 17), .inr (8, [.int 12, .int 4, .ref (ad1918 27), .int 0])), ((ad1918 27), .inl (G.2.1, 48, .inl (fun _ => 0))), ((ad1918 18), .inr (8, [.int 16, .int 3, .ref (ad1918 28), .int 0])), ((ad1918 28), .inl (G.2.1, 48, .inl (fun _ => 0))), ((ad1918 19), .inr (8, [.int 7, .int 2, .ref (ad1918 29), .int 0])), ((ad1918 29), .inl (G.2.1, 14, .inl (fun _ => 0))), ((ad1918 1), .inr (0, [.ref (ad1918 30), .ref (ad1918 31), .ref (ad1918 32), .ref (ad1918 33), .ref (ad1918 34), .ref (ad1918 35), .ref (ad1918 36), .ref (ad1918 37), .ref (ad1918 38), .ref (ad1918 39), .int 0, .int (-1), .int 3, .int 24])), ((ad1918 30), .inr (8, [.int 10, .int 2, .ref (ad1918 40), .int 0])), ((ad1918 40), .inl (G.2.1, 20, .inl (fun _ => 0))), ((ad1918 31), .inr (8, [.int 12, .int 6, .ref (ad1918 41), .int 0])), ((ad1918 41), .inl (G.2.1, 72, .inl (fun _ => 0))), ((ad1918 32), .inr (8, [.int 24, .int 3, .ref (ad1918 42), .int 0])), ((ad1918 42), .inl (G.2.1, 72, .inl (fun _ => 0))), ((ad1918 33), .inr (8, [.int 8, .int 3, .ref (ad1918 43), .int 0])), ((ad1918 43), .inl (G.2.1, 24, .inl (fun _ => 0))), ((ad1918 34), .inr (8, [.int 72, .int 7, .ref (ad1918 44), .int 0])), ((ad1918 44), .inl (G.2.1, 504, .inl (fun _ => 0))), ((ad1918 35), .inr (8, [.int 960, .int 1, .ref (ad1918 45), .int 0])), ((ad1918 45), .inl (G.2.1, 960, .inl (fun _ => 0))), ((ad1918 36), .inr (8, [.int 16, .int 8, .ref (ad1918 46), .int 0])), ((ad1918 46), .inl (G.2.1, 128, .inl (fun _ => 0))), ((ad1918 37), .inr (8, [.int 12, .int 4, .ref (ad1918 47), .int 0])), ((ad1918 47), .inl (G.2.1, 48, .inl (fun _ => 0))), ((ad1918 38), .inr (8, [.int 16, .int 3, .ref (ad1918 48), .int 0])), ((ad1918 48), .inl (G.2.1, 48, .inl (fun _ => 0))), ((ad1918 39), .inr (8, [.int 7, .int 2, .ref (ad1918 49), .int 0])), ((ad1918 49), .inl (G.2.1, 14, .inl (fun _ => 0))), ((ad1918 2), .inr (7, [.ref (ad1918 0), .ref (ad1918 50), .ref (ad1918 51), .ref (ad1918 52), .ref (ad1918 53), .ref (ad1918 54), .ref (ad1918 55), .ref (ad1918 56), .int 0])), ((ad1918 50), .inr (1, [.ref (ad1918 57)])), ((ad1918 57), .inl (G.2.1, 36, .inl (fun _ => 0))), ((ad1918 51), .inl (G.2.1, 12, .inl (fun _ => 0))), ((ad1918 52), .inl (G.2.1, 12, .inl (fun _ => 0))), ((ad1918 53), .inl (G.2.1, 12, .inl (fun _ => 0))), ((ad1918 54), .inl (G.2.1, 12, .inl (fun _ => 0))), ((ad1918 55), .inl (G.2.1, 12, .inl (fun _ => 0))), ((ad1918 56), .inl (G.2.1, 12, .inl (fun _ => 0))), ((ad1918 3), .inr (3, [.ref (ad1918 0), .ref (ad1918 58), .int 0, .int 0, .int 0])), ((ad1918 58), .inl (G.2.2.1, 13, .inr (.inr (.inr (.inr hf1919))))), ((ad1918 59), .inr (1, [.ref (ad1918 60)])), ((ad1918 60), .inl (G.2.1, 36, .inl (fun _ => 0))), ((ad1918 5), .inr (9, [.ref (ad1918 0), .ref (ad1918 2), .int 0, .int 0, .int 0, .int 0])), ((ad1918 6), .inr (10, [.ref (ad1918 61), .int 0, .ref (ad1918 62), .ref (ad1918 63), .int (-1), .int 0, .int 0, .int (-1)])), ((ad1918 61), .inl (G.2.1, 240, .inl (fun _ => 0))), ((ad1918 62), .inr (8, [.int 9, .int 7, .ref (ad1918 64), .int 0])), ((ad1918 64), .inl (G.2.1, 63, .inl (fun _ => 0))), ((ad1918 63), .inr (8, [.int 120, .int 1, .ref (ad1918 65), .int 0])), ((ad1918 65), .inl (G.2.1, 120, .inl (fun _ => 0))), ((ad1918 7), .inr (5, [.ref (ad1918 0), .ref (ad1918 66), .ref (ad1918 67), .int 0, .int 0, .int 0])), ((ad1918 66), .inr (8, [.int 7, .int 2, .ref (ad1918 68), .int 0])), ((ad1918 68), .inl (G.2.1, 14, .inl (fun _ => 0))), ((ad1918 8), .inr (4, [.ref (ad1918 69), .ref (ad1918 70), .ref (ad1918 71), .ref (ad1918 72), .ref (ad1918 73), .ref (ad1918 74)])), ((ad1918 69), .inl (G.2.1, 4, .inl (upd (upd (upd (upd (fun _ => 0) 0 (-1)) 1 (-1)) 2 (-1)) 3 (-1)))), ((ad1918 70), .inl (G.2.1, 4, .inl (fun _ => 0))), ((ad1918 71), .inl (G.2.1, 160, .inl (fun _ => 0))), ((ad1918 72), .inl (G.2.1, 4, .inl (upd (upd (upd (upd (fun _ => 0) 0 4) 1 4) 2 4) 3 4))), ((ad1918 73), .inl (G.2.1, 4, .inl (fun _ => 0))), ((ad1918 74), .inl (G.2.1, 4, .inl (fun _ => 0))), ((ad1918 9), .inr (2, [.ref (ad1918 0), .ref (ad1918 75), .int 0, .int 0, .int 0, .int 0, .int 0, .int 0]))]) hSX hC hK hl hP hD hS hA (m_init l G q1921) si_L_12 [74] [0, 1, 2, 3, 4, 5, 6, 7, 8, 9, 10, 11, 12, 13, 14, 15, 16, 17, 18, 19, 20, 21, 22, 23, 24, 25, 26, 27, 28, 29, 30, 31, 32, 33, 34, 35, 36, 37, 38, 39, 40, 41, 42, 43, 44, 45, 46, 47, 48, 49, 50, 51, 52, 53, 54, 55, 56, 57, 58, 59, 60, 61, 62, 63, 64, 65, 66, 67, 68, 69, 70, 71, 72, 73] rfl rfl (by decide) rfl (by decide) (by decide) rfl rfl (Nat.le_of_ble_eq_true rfl) ⟨Nat.le_of_ble_eq_true rfl, Nat.le_of_ble_eq_true rfl⟩ ⟨by first | exact Nat.le_of_ble_eq_true rfl | omega, by first | exact Nat.le_of_ble_eq_true rfl | omega⟩ dL_law_12 (fun u1923 H locs hr1922 hP hD hS => ?_)
  have hP : va_P G.1 vwCl [(q1915, .inr (11, [.ref (ad1918 0), .ref (ad1918 1), .int 0, .ref (ad1918 2), .ref (ad1918 3), .ref (ad1918 4), .ref (ad1918 5), .ref (ad1918 6), .ref (ad1918 7), .ref (ad1918 8), .ref (ad1918 9)])), ((ad1918 0), .inr (0, [.ref (ad1918 10), .ref (ad1918 11), .ref (ad1918 12), .ref (ad1918 13), .ref (ad1918 14), .ref (ad1918 15), .ref (ad1918 16), .ref (ad1918 17), .ref (ad1918 18), .ref (ad1918 19), .int 0, .int (-1), .int 3, .int 24])), ((ad1918 10), .inr (8, [.int 10, .int 2, .ref (ad1918 20), .int 0])), ((ad1918 20), .inl (G.2.1, 20, .inl (fun _ => 0))), ((ad1918 11), .inr (8, [.int 12, .int 6, .ref (ad1918 21), .int 0])), ((ad1918 21), .inl (G.2.1, 72, .inl (fun _ => 0))), ((ad1918 12), .inr (8, [.int 24, .int 3, .ref (ad1918 22), .int 0])), ((ad1918 22), .inl (G.2.1, 72, .inl (fun _ => 0))), ((ad1918 13), .inr (8, [.int 8, .int 3, .ref (ad1918 23), .int 0])), ((ad1918 23), .inl (G.2.1, 24, .inl (fun _ => 0))), ((ad1918 14), .inr (8, [.int 72, .int 7, .ref (ad1918 24), .int 0])), ((ad1918 24), .inl (G.2.1, 504, .inl (fun _ => 0))), ((ad1918 15), .inr (8, [.int 960, .int 1, .ref (ad1918 25), .int 0])), ((ad1918 25), .inl (G.2.1, 960, .inl (fun _ => 0))), ((ad1918 16), .inr (8, [.int 16, .int 8, .ref (ad1918 26), .int 0])), ((ad1918 26), .inl (G.2.1, 128, .inl (fun _ => 0))), ((ad1918 17), .inr (8, [.int 12, .int 4, .ref (ad1918 27), .int 0])), ((ad1918 27), .inl (G.2.1, 48, .inl (fun _ => 0))), ((ad1918 18), .inr (8, [.int 16, .int 3, .ref (ad1918 28), .int 0])), ((ad1918 28), .inl (G.2.1, 48, .inl (fun _ => 0))), ((ad1918 19), .inr (8, [.int 7, .int 2, .ref (ad1918 29), .int 0])), ((ad1918 29), .inl (G.2.1, 14, .inl (fun _ => 0))), ((ad1918 1), .inr (0, [.ref (ad1918 30), .ref (ad1918 31), .ref (ad1918 32), .ref (ad1918 33), .ref (ad1918 34), .ref (ad1918 35), .ref (ad1918 36), .ref (ad1918 37), .ref (ad1918 38), .ref (ad1918 39), .int 0, .int (-1), .int 3, .int 24])), ((ad1918 30), .inr (8, [.int 10, .int 2, .ref (ad1918 40), .int 0])), ((ad1918 40), .inl (G.2.1, 20, .inl (fun _ => 0))), ((ad1918 31), .inr (8, [.int 12, .int 6, .ref (ad1918 41), .int 0])), ((ad1918 41), .inl (G.2.1, 72, .inl (fun _ => 0))), ((ad1918 32), .inr (8, [.int 24, .int 3, .ref (ad1918 42), .int 0])), ((ad1918 42), .inl (G.2.1, 72, .inl (fun _ => 0))), ((ad1918 33), .inr (8, [.int 8, .int 3, .ref (ad1918 43), .int 0])), ((ad1918 43), .inl (G.2.1, 24, .inl (fun _ => 0))), ((ad1918 34), .inr (8, [.int 72, .int 7, .ref (ad1918 44), .int 0])), ((ad1918 44), .inl (G.2.1, 504, .inl (fun _ => 0))), ((ad1918 35), .inr (8, [.int 960, .int 1, .ref (ad1918 45), .int 0])), ((ad1918 45), .inl (G.2.1, 960, .inl (fun _ => 0))), ((ad1918 36), .inr (8, [.int 16, .int 8, .ref (ad1918 46), .int 0])), ((ad1918 46), .inl (G.2.1, 128, .inl (fun _ => 0))), ((ad1918 37), .inr (8, [.int 12, .int 4, .ref (ad1918 47), .int 0])), ((ad1918 47), .inl (G.2.1, 48, .inl (fun _ => 0))), ((ad1918 38), .inr (8, [.int 16, .int 3, .ref (ad1918 48), .int 0])), ((ad1918 48), .inl (G.2.1, 48, .inl (fun _ => 0))), ((ad1918 39), .inr (8, [.int 7, .int 2, .ref (ad1918 49), .int 0])), ((ad1918 49), .inl (G.2.1, 14, .inl (fun _ => 0))), ((ad1918 2), .inr (7, [.ref (ad1918 0), .ref (ad1918 50), .ref (ad1918 51), .ref (ad1918 52), .ref (ad1918 53), .ref (ad1918 54), .ref (ad1918 55), .ref (ad1918 56), .int 0])), ((ad1918 50), .inr (1, [.ref (ad1918 57)])), ((ad1918 57), .inl (G.2.1, 36, .inl (fun _ => 0))), ((ad1918 51), .inl (G.2.1, 12, .inl (fun _ => 0))), ((ad1918 52), .inl (G.2.1, 12, .inl (fun _ => 0))), ((ad1918 53), .inl (G.2.1, 12, .inl (fun _ => 0))), ((ad1918 54), .inl (G.2.1, 12, .inl (fun _ => 0))), ((ad1918 55), .inl (G.2.1, 12, .inl (fun _ => 0))), ((ad1918 56), .inl (G.2.1, 12, .inl (fun _ => 0))), ((ad1918 3), .inr (3, [.ref (ad1918 0), .ref (ad1918 58), .int 0, .int 0, .int 0])), ((ad1918 58), .inl (G.2.2.1, 13, .inr (.inr (.inr (.inr hf1919))))), ((ad1918 59), .inr (1, [.ref (ad1918 60)])), ((ad1918 60), .inl (G.2.1, 36, .inl (fun _ => 0))), ((ad1918 5), .inr (9, [.ref (ad1918 0), .ref (ad1918 2), .int 0, .int 0, .int 0, .int 0])), ((ad1918 6), .inr (10, [.ref (ad1918 61), .int 0, .ref (ad1918 62), .ref (ad1918 63), .int (-1), .int 0, .int 0, .int (-1)])), ((ad1918 61), .inl (G.2.1, 240, .inl (fun _ => 0))), ((ad1918 62), .inr (8, [.int 9, .int 7, .ref (ad1918 64), .int 0])), ((ad1918 64), .inl (G.2.1, 63, .inl (fun _ => 0))), ((ad1918 63), .inr (8, [.int 120, .int 1, .ref (ad1918 65), .int 0])), ((ad1918 65), .inl (G.2.1, 120, .inl (fun _ => 0))), ((ad1918 7), .inr (5, [.ref (ad1918 0), .ref (ad1918 66), .ref (ad1918 67), .int 0, .int 0, .int 0])), ((ad1918 66), .inr (8, [.int 7, .int 2, .ref (ad1918 68), .int 0])), ((ad1918 68), .inl (G.2.1, 14, .inl (fun _ => 0))), ((ad1918 8), .inr (4, [.ref (ad1918 69), .ref (ad1918 70), .ref (ad1918 71), .ref (ad1918 72), .ref (ad1918 73), .ref (ad1918 74)])), ((ad1918 69), .inl (G.2.1, 4, .inl (upd (upd (upd (upd (fun _ => 0) 0 (-1)) 1 (-1)) 2 (-1)) 3 (-1)))), ((ad1918 70), .inl (G.2.1, 4, .inl (fun _ => 0))), ((ad1918 71), .inl (G.2.1, 160, .inl (fun _ => 0))), ((ad1918 72), .inl (G.2.1, 4, .inl (upd (upd (upd (upd (fun _ => 0) 0 4) 1 4) 2 4) 3 4))), ((ad1918 73), .inl (G.2.1, 4, .inl (fun _ => 0))), ((ad1918 74), .inl (G.2.1, 4, .inl (fun _ => 0))), ((ad1918 9), .inr (2, [.ref (ad1918 0), .ref (ad1918 75), .int 0, .int 0, .int 0, .int 0, .int 0, .int 0])), (q1921, .inr (12, [.ref (u1923 0), .ref (u1923 1), .int 0, .ref (u1923 2), .int 0, .ref (u1923 3), .int 0, .int (-1), .int 0, .int 0, .ref (u1923 4), .int 0, .int 0, .ref (u1923 5), .int 0, .int 0, .int 0, .int 0, .int 0, .int 0, .int 0, .ref (u1923 6), .ref (u1923 7), .ref (u1923 8), .ref (u1923 9), .ref (u1923 10), .ref (u1923 11), .int 0, .ref (u1923 12), .ref (u1923 13), .ref (u1923 14), .ref (u1923 15), .ref (u1923 16), .ref (u1923 17), .ref (u1923 18), .int 0, .int 0, .int 0, .int 0, .int 0, .int 0])), ((u1923 0), .inl (G.2.1, 1662, .inl NOW0)), ((u1923 1), .inl (G.2.1, 1662, .inl (fun _ => 0))), ((u1923 2), .inl (G.2.1, 240, .inl (fun _ => 0))), ((u1923 4), .inl (G.2.1, 36, .inl (fun _ => 0))), ((u1923 6), .inl (G.2.1, 54, .inl (fun _ => 0))), ((u1923 12), .inl (G.2.1, 4, .inl (upd (upd (upd (upd (fun _ => 0) 0 (-1)) 1 (-1)) 2 (-1)) 3 (-1)))), ((u1923 13), .inl (G.2.1, 4, .inl (fun _ => 0))), ((u1923 14), .inl (G.2.1, 160, .inl (fun _ => 0))), ((u1923 15), .inl (G.2.1, 4, .inl (fun _ => 0))), ((u1923 16), .inl (G.2.1, 4, .inl (fun _ => 0))), ((u1923 17), .inl (G.2.1, 4, .inl (fun _ => 0)))] H := hP
  have hD : va_D A [(q1915, .inr (11, [.ref (ad1918 0), .ref (ad1918 1), .int 0, .ref (ad1918 2), .ref (ad1918 3), .ref (ad1918 4), .ref (ad1918 5), .ref (ad1918 6), .ref (ad1918 7), .ref (ad1918 8), .ref (ad1918 9)])), ((ad1918 0), .inr (0, [.ref (ad1918 10), .ref (ad1918 11), .ref (ad1918 12), .ref (ad1918 13), .ref (ad1918 14), .ref (ad1918 15), .ref (ad1918 16), .ref (ad1918 17), .ref (ad1918 18), .ref (ad1918 19), .int 0, .int (-1), .int 3, .int 24])), ((ad1918 10), .inr (8, [.int 10, .int 2, .ref (ad1918 20), .int 0])), ((ad1918 20), .inl (G.2.1, 20, .inl (fun _ => 0))), ((ad1918 11), .inr (8, [.int 12, .int 6, .ref (ad1918 21), .int 0])), ((ad1918 21), .inl (G.2.1, 72, .inl (fun _ => 0))), ((ad1918 12), .inr (8, [.int 24, .int 3, .ref (ad1918 22), .int 0])), ((ad1918 22), .inl (G.2.1, 72, .inl (fun _ => 0))), ((ad1918 13), .inr (8, [.int 8, .int 3, .ref (ad1918 23), .int 0])), ((ad1918 23), .inl (G.2.1, 24, .inl (fun _ => 0))), ((ad1918 14), .inr (8, [.int 72, .int 7, .ref (ad1918 24), .int 0])), ((ad1918 24), .inl (G.2.1, 504, .inl (fun _ => 0))), ((ad1918 15), .inr (8, [.int 960, .int 1, .ref (ad1918 25), .int 0])), ((ad1918 25), .inl (G.2.1, 960, .inl (fun _ => 0))), ((ad1918 16), .inr (8, [.int 16, .int 8, .ref (ad1918 26), .int 0])), ((ad1918 26), .inl (G.2.1, 128, .inl (fun _ => 0))), ((ad1918 17), .inr (8, [.int 12, .int 4, .ref (ad1918 27), .int 0])), ((ad1918 27), .inl (G.2.1, 48, .inl (fun _ => 0))), ((ad1918 18), .inr (8, [.int 16, .int 3, .ref (ad1918 28), .int 0])), ((ad1918 28), .inl (G.2.1, 48, .inl (fun _ => 0))), ((ad1918 19), .inr (8, [.int 7, .int 2, .ref (ad1918 29), .int 0])), ((ad1918 29), .inl (G.2.1, 14, .inl (fun _ => 0))), ((ad1918 1), .inr (0, [.ref (ad1918 30), .ref (ad1918 31), .ref (ad1918 32), .ref (ad1918 33), .ref (ad1918 34), .ref (ad1918 35), .ref (ad1918 36), .ref (ad1918 37), .ref (ad1918 38), .ref (ad1918 39), .int 0, .int (-1), .int 3, .int 24])), ((ad1918 30), .inr (8, [.int 10, .int 2, .ref (ad1918 40), .int 0])), ((ad1918 40), .inl (G.2.1, 20, .inl (fun _ => 0))), ((ad1918 31), .inr (8, [.int 12, .int 6, .ref (ad1918 41), .int 0])), ((ad1918 41), .inl (G.2.1, 72, .inl (fun _ => 0))), ((ad1918 32), .inr (8, [.int 24, .int 3, .ref (ad1918 42), .int 0])), ((ad1918 42), .inl (G.2.1, 72, .inl (fun _ => 0))), ((ad1918 33), .inr (8, [.int 8, .int 3, .ref (ad1918 43), .int 0])), ((ad1918 43), .inl (G.2.1, 24, .inl (fun _ => 0))), ((ad1918 34), .inr (8, [.int 72, .int 7, .ref (ad1918 44), .int 0])), ((ad1918 44), .inl (G.2.1, 504, .inl (fun _ => 0))), ((ad1918 35), .inr (8, [.int 960, .int 1, .ref (ad1918 45), .int 0])), ((ad1918 45), .inl (G.2.1, 960, .inl (fun _ => 0))), ((ad1918 36), .inr (8, [.int 16, .int 8, .ref (ad1918 46), .int 0])), ((ad1918 46), .inl (G.2.1, 128, .inl (fun _ => 0))), ((ad1918 37), .inr (8, [.int 12, .int 4, .ref (ad1918 47), .int 0])), ((ad1918 47), .inl (G.2.1, 48, .inl (fun _ => 0))), ((ad1918 38), .inr (8, [.int 16, .int 3, .ref (ad1918 48), .int 0])), ((ad1918 48), .inl (G.2.1, 48, .inl (fun _ => 0))), ((ad1918 39), .inr (8, [.int 7, .int 2, .ref (ad1918 49), .int 0])), ((ad1918 49), .inl (G.2.1, 14, .inl (fun _ => 0))), ((ad1918 2), .inr (7, [.ref (ad1918 0), .ref (ad1918 50), .ref (ad1918 51), .ref (ad1918 52), .ref (ad1918 53), .ref (ad1918 54), .ref (ad1918 55), .ref (ad1918 56), .int 0])), ((ad1918 50), .inr (1, [.ref (ad1918 57)])), ((ad1918 57), .inl (G.2.1, 36, .inl (fun _ => 0))), ((ad1918 51), .inl (G.2.1, 12, .inl (fun _ => 0))), ((ad1918 52), .inl (G.2.1, 12, .inl (fun _ => 0))), ((ad1918 53), .inl (G.2.1, 12, .inl (fun _ => 0))), ((ad1918 54), .inl (G.2.1, 12, .inl (fun _ => 0))), ((ad1918 55), .inl (G.2.1, 12, .inl (fun _ => 0))), ((ad1918 56), .inl (G.2.1, 12, .inl (fun _ => 0))), ((ad1918 3), .inr (3, [.ref (ad1918 0), .ref (ad1918 58), .int 0, .int 0, .int 0])), ((ad1918 58), .inl (G.2.2.1, 13, .inr (.inr (.inr (.inr hf1919))))), ((ad1918 59), .inr (1, [.ref (ad1918 60)])), ((ad1918 60), .inl (G.2.1, 36, .inl (fun _ => 0))), ((ad1918 5), .inr (9, [.ref (ad1918 0), .ref (ad1918 2), .int 0, .int 0, .int 0, .int 0])), ((ad1918 6), .inr (10, [.ref (ad1918 61), .int 0, .ref (ad1918 62), .ref (ad1918 63), .int (-1), .int 0, .int 0, .int (-1)])), ((ad1918 61), .inl (G.2.1, 240, .inl (fun _ => 0))), ((ad1918 62), .inr (8, [.int 9, .int 7, .ref (ad1918 64), .int 0])), ((ad1918 64), .inl (G.2.1, 63, .inl (fun _ => 0))), ((ad1918 63), .inr (8, [.int 120, .int 1, .ref (ad1918 65), .int 0])), ((ad1918 65), .inl (G.2.1, 120, .inl (fun _ => 0))), ((ad1918 7), .inr (5, [.ref (ad1918 0), .ref (ad1918 66), .ref (ad1918 67), .int 0, .int 0, .int 0])), ((ad1918 66), .inr (8, [.int 7, .int 2, .ref (ad1918 68), .int 0])), ((ad1918 68), .inl (G.2.1, 14, .inl (fun _ => 0))), ((ad1918 8), .inr (4, [.ref (ad1918 69), .ref (ad1918 70), .ref (ad1918 71), .ref (ad1918 72), .ref (ad1918 73), .ref (ad1918 74)])), ((ad1918 69), .inl (G.2.1, 4, .inl (upd (upd (upd (upd (fun _ => 0) 0 (-1)) 1 (-1)) 2 (-1)) 3 (-1)))), ((ad1918 70), .inl (G.2.1, 4, .inl (fun _ => 0))), ((ad1918 71), .inl (G.2.1, 160, .inl (fun _ => 0))), ((ad1918 72), .inl (G.2.1, 4, .inl (upd (upd (upd (upd (fun _ => 0) 0 4) 1 4) 2 4) 3 4))), ((ad1918 73), .inl (G.2.1, 4, .inl (fun _ => 0))), ((ad1918 74), .inl (G.2.1, 4, .inl (fun _ => 0))), ((ad1918 9), .inr (2, [.ref (ad1918 0), .ref (ad1918 75), .int 0, .int 0, .int 0, .int 0, .int 0, .int 0])), (q1921, .inr (12, [.ref (u1923 0), .ref (u1923 1), .int 0, .ref (u1923 2), .int 0, .ref (u1923 3), .int 0, .int (-1), .int 0, .int 0, .ref (u1923 4), .int 0, .int 0, .ref (u1923 5), .int 0, .int 0, .int 0, .int 0, .int 0, .int 0, .int 0, .ref (u1923 6), .ref (u1923 7), .ref (u1923 8), .ref (u1923 9), .ref (u1923 10), .ref (u1923 11), .int 0, .ref (u1923 12), .ref (u1923 13), .ref (u1923 14), .ref (u1923 15), .ref (u1923 16), .ref (u1923 17), .ref (u1923 18), .int 0, .int 0, .int 0, .int 0, .int 0, .int 0])), ((u1923 0), .inl (G.2.1, 1662, .inl NOW0)), ((u1923 1), .inl (G.2.1, 1662, .inl (fun _ => 0))), ((u1923 2), .inl (G.2.1, 240, .inl (fun _ => 0))), ((u1923 4), .inl (G.2.1, 36, .inl (fun _ => 0))), ((u1923 6), .inl (G.2.1, 54, .inl (fun _ => 0))), ((u1923 12), .inl (G.2.1, 4, .inl (upd (upd (upd (upd (fun _ => 0) 0 (-1)) 1 (-1)) 2 (-1)) 3 (-1)))), ((u1923 13), .inl (G.2.1, 4, .inl (fun _ => 0))), ((u1923 14), .inl (G.2.1, 160, .inl (fun _ => 0))), ((u1923 15), .inl (G.2.1, 4, .inl (fun _ => 0))), ((u1923 16), .inl (G.2.1, 4, .inl (fun _ => 0))), ((u1923 17), .inl (G.2.1, 4, .inl (fun _ => 0)))] := hD
  refine Wcast (c1 := 123) (s1 := 9503) rfl rfl ?_
  refine lv_astore_n (lv' := [(2, .ref q1921), (1, .ref q1915), (0, .ref b)]) hx hb dL_law_15 rfl hl (by decide) rfl (fun ls hl => ?_)
  refine lv_iconst (v := 0) hx hb dL_law_16 (by decide) ?_
  refine lv_istore_n (lv' := [(3, .int 0), (2, .ref q1921), (1, .ref q1915), (0, .ref b)]) hx hb dL_law_17 rfl hl (by decide) rfl (fun ls hl => ?_)
  have hP : va_P G.1 vwCl (WLAW G q1915 q1921 ad1918 u1923 hf1919) H := hP.sub [0, 1, 2, 3, 4, 5, 6, 7, 8, 9, 10, 11, 12, 13, 14, 15, 16, 17, 18, 19, 20, 21, 22, 23, 24, 25, 26, 27, 28, 29, 30, 31, 32, 33, 34, 35, 36, 37, 38, 39, 40, 41, 42, 43, 44, 45, 46, 47, 48, 49, 50, 51, 52, 53, 54, 55, 56, 57, 58, 59, 60, 61, 62, 63, 64, 65, 66, 67, 68, 69, 70, 71, 72, 73, 74, 75, 76, 77, 78, 79, 80, 81, 82, 83, 84, 85] rfl
  have hD : va_D A (WLAW G q1915 q1921 ad1918 u1923 hf1919) := hD.sub [0, 1, 2, 3, 4, 5, 6, 7, 8, 9, 10, 11, 12, 13, 14, 15, 16, 17, 18, 19, 20, 21, 22, 23, 24, 25, 26, 27, 28, 29, 30, 31, 32, 33, 34, 35, 36, 37, 38, 39, 40, 41, 42, 43, 44, 45, 46, 47, 48, 49, 50, 51, 52, 53, 54, 55, 56, 57, 58, 59, 60, 61, 62, 63, 64, 65, 66, 67, 68, 69, 70, 71, 72, 73, 74, 75, 76, 77, 78, 79, 80, 81, 82, 83, 84, 85] (by decide) rfl
  have hl : lv_has ls 4 [(3, .int 0), (2, .ref q1921), (1, .ref q1915), (0, .ref b)] := lv_sub hl [0, 1, 2, 3] rfl
  rcases Nat.lt_or_ge L 7 with h7 | h7
  · exact law_short (l := l) (G := G) h7 hX7 hC hbl hbA hA2 hS hl
  obtain rfl : L = 7 := by omega
  have hX := hX7
  refine lv_iload_n hx hb dL_law_18 rfl (lv_at hl 0 rfl) ?_
  refine lv_aload_n hx hb dL_law_19 rfl (lv_at hl 3 rfl) ?_
  refine va_slen hx hb hX hbl hbA hS dL_law_20 ?_
  refine eqi (x1 := 7) (by decide) ?_
  refine lv_bipush (v := 7) hx hb dL_law_21 (by decide) ?_
  refine lv_isub hx hb dL_law_23 ?_
  refine eqi (x1 := 0) (by decide) ?_
  refine lv_icmp_gt (tgt := 1724) hx hb dL_law_24 (by decide) (fun c9 => absurd c9 (by decide)) (fun _ => ?_)
  refine lv_aload_n hx hb dL_law_27 rfl (lv_at hl 3 rfl) ?_
  refine lv_iload_n hx hb dL_law_28 rfl (lv_at hl 0 rfl) ?_
  refine va_sld hx hb hX hbl hbA hS (vin (by decide +kernel)) dL_law_29 ?_
  refine eqi (x1 := xs 0) (congrArg xs (by decide +kernel)) ?_
  refine lv_bipush (v := 63) hx hb dL_law_30 (by decide) ?_
  refine lv_iand hx hb dL_law_32 ?_
  by_cases c_33_1924 : (xs 0) &&& 63 = 0
  · refine lv_tableIn (tgt := 216) hx hb dL_law_33 (by rw [c_33_1924]; decide) (by rw [c_33_1924]; decide) (by rw [c_33_1924]; rfl) (by decide) ?_
    exact law_0 (l := l) hC hK hX hbl hbA hA hA2 w1920 hP hD hS hl
  by_cases c_33_1925 : (xs 0) &&& 63 = 1
  · refine lv_tableIn (tgt := 239) hx hb dL_law_33 (by rw [c_33_1925]; decide) (by rw [c_33_1925]; decide) (by rw [c_33_1925]; rfl) (by decide) ?_
    exact law_1 (l := l) hC hK hX hbl hbA hA hA2 w1920 hP hD hS hl
  by_cases c_33_1926 : (xs 0) &&& 63 = 2
  · refine lv_tableIn (tgt := 272) hx hb dL_law_33 (by rw [c_33_1926]; decide) (by rw [c_33_1926]; decide) (by rw [c_33_1926]; rfl) (by decide) ?_
    exact law_2 (l := l) hC hK hX hbl hbA hA hA2 w1920 hP hD hS hl
  by_cases c_33_1927 : (xs 0) &&& 63 = 3
  · refine lv_tableIn (tgt := 305) hx hb dL_law_33 (by rw [c_33_1927]; decide) (by rw [c_33_1927]; decide) (by rw [c_33_1927]; rfl) (by decide) ?_
    exact law_3 (l := l) hC hK hX hbl hbA hA hA2 w1920 hP hD hS hl
  by_cases c_33_1928 : (xs 0) &&& 63 = 4
  · refine lv_tableIn (tgt := 338) hx hb dL_law_33 (by rw [c_33_1928]; decide) (by rw [c_33_1928]; decide) (by rw [c_33_1928]; rfl) (by decide) ?_
    exact law_4 (l := l) hC hK hX hbl hbA hA hA2 w1920 hP hD hS hl
  by_cases c_33_1929 : (xs 0) &&& 63 = 5
  · refine lv_tableIn (tgt := 391) hx hb dL_law_33 (by rw [c_33_1929]; decide) (by rw [c_33_1929]; decide) (by rw [c_33_1929]; rfl) (by decide) ?_
    exact law_5 (l := l) hC hK hX hbl hbA hA hA2 w1920 hP hD hS hl
  by_cases c_33_1930 : (xs 0) &&& 63 = 6
  · refine lv_tableIn (tgt := 414) hx hb dL_law_33 (by rw [c_33_1930]; decide) (by rw [c_33_1930]; decide) (by rw [c_33_1930]; rfl) (by decide) ?_
    exact law_6 (l := l) hC hK hX hbl hbA hA hA2 w1920 hP hD hS hl
  by_cases c_33_1931 : (xs 0) &&& 63 = 7
  · refine lv_tableIn (tgt := 447) hx hb dL_law_33 (by rw [c_33_1931]; decide) (by rw [c_33_1931]; decide) (by rw [c_33_1931]; rfl) (by decide) ?_
    exact law_7 (l := l) hC hK hX hbl hbA hA hA2 w1920 hP hD hS hl
  by_cases c_33_1932 : (xs 0) &&& 63 = 8
  · refine lv_tableIn (tgt := 490) hx hb dL_law_33 (by rw [c_33_1932]; decide) (by rw [c_33_1932]; decide) (by rw [c_33_1932]; rfl) (by decide) ?_
    exact law_8 (l := l) hC hK hX hbl hbA hA hA2 w1920 hP hD hS hl
  by_cases c_33_1933 : (xs 0) &&& 63 = 9
  · refine lv_tableIn (tgt := 543) hx hb dL_law_33 (by rw [c_33_1933]; decide) (by rw [c_33_1933]; decide) (by rw [c_33_1933]; rfl) (by decide) ?_
    exact law_9 (l := l) hC hK hX hbl hbA hA hA2 w1920 hP hD hS hl
  by_cases c_33_1934 : (xs 0) &&& 63 = 10
  · refine lv_tableIn (tgt := 566) hx hb dL_law_33 (by rw [c_33_1934]; decide) (by rw [c_33_1934]; decide) (by rw [c_33_1934]; rfl) (by decide) ?_
    exact law_10 (l := l) hC hK hX hbl hbA hA hA2 w1920 hP hD hS hl
  by_cases c_33_1935 : (xs 0) &&& 63 = 11
  · refine lv_tableIn (tgt := 589) hx hb dL_law_33 (by rw [c_33_1935]; decide) (by rw [c_33_1935]; decide) (by rw [c_33_1935]; rfl) (by decide) ?_
    exact law_11 (l := l) hC hK hX hbl hbA hA hA2 w1920 hP hD hS hl
  by_cases c_33_1936 : (xs 0) &&& 63 = 12
  · refine lv_tableIn (tgt := 638) hx hb dL_law_33 (by rw [c_33_1936]; decide) (by rw [c_33_1936]; decide) (by rw [c_33_1936]; rfl) (by decide) ?_
    exact law_12 (l := l) hC hK hX hbl hbA hA hA2 w1920 hP hD hS hl
  by_cases c_33_1937 : (xs 0) &&& 63 = 13
  · refine lv_tableIn (tgt := 687) hx hb dL_law_33 (by rw [c_33_1937]; decide) (by rw [c_33_1937]; decide) (by rw [c_33_1937]; rfl) (by decide) ?_
    exact law_13 (l := l) hC hK hX hbl hbA hA hA2 w1920 hP hD hS hl
  by_cases c_33_1938 : (xs 0) &&& 63 = 14
  · refine lv_tableIn (tgt := 746) hx hb dL_law_33 (by rw [c_33_1938]; decide) (by rw [c_33_1938]; decide) (by rw [c_33_1938]; rfl) (by decide) ?_
    exact law_14 (l := l) hC hK hX hbl hbA hA hA2 w1920 hP hD hS hl
  by_cases c_33_1939 : (xs 0) &&& 63 = 15
  · refine lv_tableIn (tgt := 779) hx hb dL_law_33 (by rw [c_33_1939]; decide) (by rw [c_33_1939]; decide) (by rw [c_33_1939]; rfl) (by decide) ?_
    exact law_15 (l := l) hC hK hX hbl hbA hA hA2 w1920 hP hD hS hl
  by_cases c_33_1940 : (xs 0) &&& 63 = 16
  · refine lv_tableIn (tgt := 822) hx hb dL_law_33 (by rw [c_33_1940]; decide) (by rw [c_33_1940]; decide) (by rw [c_33_1940]; rfl) (by decide) ?_
    exact law_16 (l := l) hC hK hX hbl hbA hA hA2 w1920 hP hD hS hl
  by_cases c_33_1941 : (xs 0) &&& 63 = 17
  · refine lv_tableIn (tgt := 885) hx hb dL_law_33 (by rw [c_33_1941]; decide) (by rw [c_33_1941]; decide) (by rw [c_33_1941]; rfl) (by decide) ?_
    exact law_17 (l := l) hC hK hX hbl hbA hA hA2 w1920 hP hD hS hl
  by_cases c_33_1942 : (xs 0) &&& 63 = 18
  · refine lv_tableIn (tgt := 898) hx hb dL_law_33 (by rw [c_33_1942]; decide) (by rw [c_33_1942]; decide) (by rw [c_33_1942]; rfl) (by decide) ?_
    exact law_18 (l := l) hC hK hX hbl hbA hA hA2 w1920 hP hD hS hl
  by_cases c_33_1943 : (xs 0) &&& 63 = 19
  · refine lv_tableIn (tgt := 941) hx hb dL_law_33 (by rw [c_33_1943]; decide) (by rw [c_33_1943]; decide) (by rw [c_33_1943]; rfl) (by decide) ?_
    exact law_19 (l := l) hC hK hX hbl hbA hA hA2 w1920 hP hD hS hl
  by_cases c_33_1944 : (xs 0) &&& 63 = 20
  · refine lv_tableIn (tgt := 974) hx hb dL_law_33 (by rw [c_33_1944]; decide) (by rw [c_33_1944]; decide) (by rw [c_33_1944]; rfl) (by decide) ?_
    exact law_20 (l := l) hC hK hX hbl hbA hA hA2 w1920 hP hD hS hl
  by_cases c_33_1945 : (xs 0) &&& 63 = 21
  · refine lv_tableIn (tgt := 1065) hx hb dL_law_33 (by rw [c_33_1945]; decide) (by rw [c_33_1945]; decide) (by rw [c_33_1945]; rfl) (by decide) ?_
    exact law_21 (l := l) hC hK hX hbl hbA hA hA2 w1920 hP hD hS hl
  by_cases c_33_1946 : (xs 0) &&& 63 = 22
  · refine lv_tableIn (tgt := 1108) hx hb dL_law_33 (by rw [c_33_1946]; decide) (by rw [c_33_1946]; decide) (by rw [c_33_1946]; rfl) (by decide) ?_
    exact law_22 (l := l) hC hK hX hbl hbA hA hA2 w1920 hP hD hS hl
  by_cases c_33_1947 : (xs 0) &&& 63 = 23
  · refine lv_tableIn (tgt := 1121) hx hb dL_law_33 (by rw [c_33_1947]; decide) (by rw [c_33_1947]; decide) (by rw [c_33_1947]; rfl) (by decide) ?_
    exact law_23 (l := l) hC hK hX hbl hbA hA hA2 w1920 hP hD hS hl
  by_cases c_33_1948 : (xs 0) &&& 63 = 24
  · refine lv_tableIn (tgt := 1174) hx hb dL_law_33 (by rw [c_33_1948]; decide) (by rw [c_33_1948]; decide) (by rw [c_33_1948]; rfl) (by decide) ?_
    exact law_24 (l := l) hC hK hX hbl hbA hA hA2 w1920 hP hD hS hl
  by_cases c_33_1949 : (xs 0) &&& 63 = 25
  · refine lv_tableIn (tgt := 1207) hx hb dL_law_33 (by rw [c_33_1949]; decide) (by rw [c_33_1949]; decide) (by rw [c_33_1949]; rfl) (by decide) ?_
    exact law_25 (l := l) hC hK hX hbl hbA hA hA2 w1920 hP hD hS hl
  by_cases c_33_1950 : (xs 0) &&& 63 = 26
  · refine lv_tableIn (tgt := 1240) hx hb dL_law_33 (by rw [c_33_1950]; decide) (by rw [c_33_1950]; decide) (by rw [c_33_1950]; rfl) (by decide) ?_
    exact law_26 (l := l) hC hK hX hbl hbA hA hA2 w1920 hP hD hS hl
  by_cases c_33_1951 : (xs 0) &&& 63 = 27
  · refine lv_tableIn (tgt := 1273) hx hb dL_law_33 (by rw [c_33_1951]; decide) (by rw [c_33_1951]; decide) (by rw [c_33_1951]; rfl) (by decide) ?_
    exact law_27 (l := l) hC hK hX hbl hbA hA hA2 w1920 hP hD hS hl
  by_cases c_33_1952 : (xs 0) &&& 63 = 28
  · refine lv_tableIn (tgt := 1296) hx hb dL_law_33 (by rw [c_33_1952]; decide) (by rw [c_33_1952]; decide) (by rw [c_33_1952]; rfl) (by decide) ?_
    exact law_28 (l := l) hC hK hX hbl hbA hA hA2 w1920 hP hD hS hl
  by_cases c_33_1953 : (xs 0) &&& 63 = 29
  · refine lv_tableIn (tgt := 1329) hx hb dL_law_33 (by rw [c_33_1953]; decide) (by rw [c_33_1953]; decide) (by rw [c_33_1953]; rfl) (by decide) ?_
    exact law_29 (l := l) hC hK hX hbl hbA hA hA2 w1920 hP hD hS hl
  by_cases c_33_1954 : (xs 0) &&& 63 = 30
  · refine lv_tableIn (tgt := 1372) hx hb dL_law_33 (by rw [c_33_1954]; decide) (by rw [c_33_1954]; decide) (by rw [c_33_1954]; rfl) (by decide) ?_
    exact law_30 (l := l) hC hK hX hbl hbA hA hA2 w1920 hP hD hS hl
  by_cases c_33_1955 : (xs 0) &&& 63 = 31
  · refine lv_tableIn (tgt := 1385) hx hb dL_law_33 (by rw [c_33_1955]; decide) (by rw [c_33_1955]; decide) (by rw [c_33_1955]; rfl) (by decide) ?_
    exact law_31 (l := l) hC hK hX hbl hbA hA hA2 w1920 hP hD hS hl
  by_cases c_33_1956 : (xs 0) &&& 63 = 32
  · refine lv_tableIn (tgt := 1398) hx hb dL_law_33 (by rw [c_33_1956]; decide) (by rw [c_33_1956]; decide) (by rw [c_33_1956]; rfl) (by decide) ?_
    exact law_32 (l := l) hC hK hX hbl hbA hA hA2 w1920 hP hD hS hl
  by_cases c_33_1957 : (xs 0) &&& 63 = 33
  · refine lv_tableIn (tgt := 1441) hx hb dL_law_33 (by rw [c_33_1957]; decide) (by rw [c_33_1957]; decide) (by rw [c_33_1957]; rfl) (by decide) ?_
    exact law_33 (l := l) hC hK hX hbl hbA hA hA2 w1920 hP hD hS hl
  by_cases c_33_1958 : (xs 0) &&& 63 = 34
  · refine lv_tableIn (tgt := 1484) hx hb dL_law_33 (by rw [c_33_1958]; decide) (by rw [c_33_1958]; decide) (by rw [c_33_1958]; rfl) (by decide) ?_
    exact law_34 (l := l) hC hK hX hbl hbA hA hA2 w1920 hP hD hS hl
  by_cases c_33_1959 : (xs 0) &&& 63 = 35
  · refine lv_tableIn (tgt := 1527) hx hb dL_law_33 (by rw [c_33_1959]; decide) (by rw [c_33_1959]; decide) (by rw [c_33_1959]; rfl) (by decide) ?_
    exact law_35 (l := l) hC hK hX hbl hbA hA hA2 w1920 hP hD hS hl
  by_cases c_33_1960 : (xs 0) &&& 63 = 36
  · refine lv_tableIn (tgt := 1570) hx hb dL_law_33 (by rw [c_33_1960]; decide) (by rw [c_33_1960]; decide) (by rw [c_33_1960]; rfl) (by decide) ?_
    exact law_36 (l := l) hC hK hX hbl hbA hA hA2 w1920 hP hD hS hl
  by_cases c_33_1961 : (xs 0) &&& 63 = 37
  · refine lv_tableIn (tgt := 1603) hx hb dL_law_33 (by rw [c_33_1961]; decide) (by rw [c_33_1961]; decide) (by rw [c_33_1961]; rfl) (by decide) ?_
    exact law_37 (l := l) hC hK hX hbl hbA hA hA2 w1920 hP hD hS hl
  by_cases c_33_1962 : (xs 0) &&& 63 = 38
  · refine lv_tableIn (tgt := 1646) hx hb dL_law_33 (by rw [c_33_1962]; decide) (by rw [c_33_1962]; decide) (by rw [c_33_1962]; rfl) (by decide) ?_
    exact law_38 (l := l) hC hK hX hbl hbA hA hA2 w1920 hP hD hS hl
  by_cases c_33_1963 : (xs 0) &&& 63 = 39
  · refine lv_tableIn (tgt := 1669) hx hb dL_law_33 (by rw [c_33_1963]; decide) (by rw [c_33_1963]; decide) (by rw [c_33_1963]; rfl) (by decide) ?_
    exact law_39 (l := l) hC hK hX hbl hbA hA hA2 w1920 hP hD hS hl
  by_cases c_33_1964 : (xs 0) &&& 63 = 40
  · refine lv_tableIn (tgt := 1692) hx hb dL_law_33 (by rw [c_33_1964]; decide) (by rw [c_33_1964]; decide) (by rw [c_33_1964]; rfl) (by decide) ?_
    exact law_40 (l := l) hC hK hX hbl hbA hA hA2 w1920 hP hD hS hl
  by_cases c_33_1965 : (xs 0) &&& 63 = 41
  · refine lv_tableIn (tgt := 1705) hx hb dL_law_33 (by rw [c_33_1965]; decide) (by rw [c_33_1965]; decide) (by rw [c_33_1965]; rfl) (by decide) ?_
    exact law_41 (l := l) hC hK hX hbl hbA hA hA2 w1920 hP hD hS hl
  refine lv_tableOut (tgt := 1718) hx hb dL_law_33 (by have q9 := sw_0_41 (x := (xs 0) &&& 63); simp only [c_33_1924, c_33_1925, c_33_1926, c_33_1927, c_33_1928, c_33_1929, c_33_1930, c_33_1931, c_33_1932, c_33_1933, c_33_1934, c_33_1935, c_33_1936, c_33_1937, c_33_1938, c_33_1939, c_33_1940, c_33_1941, c_33_1942, c_33_1943, c_33_1944, c_33_1945, c_33_1946, c_33_1947, c_33_1948, c_33_1949, c_33_1950, c_33_1951, c_33_1952, c_33_1953, c_33_1954, c_33_1955, c_33_1956, c_33_1957, c_33_1958, c_33_1959, c_33_1960, c_33_1961, c_33_1962, c_33_1963, c_33_1964, c_33_1965, not_false_eq_true, true_implies] at q9; exact q9) (by decide) ?_
  exact law_end (l := l) hC hK hX hbl hbA hA hA2 hS hl
set_option maxHeartbeats 4000000 in
theorem lw_walk (l : Launch) (hflags : l.flags = flags0) (b : Addr) (xs : List Int32) : MetFree l x (headSpec (Jvm.Cond.code x code maxLocals ret :: tables_1) room_1) (lw_P b xs) (fun _ _ _ _ _ => True) lw_Q := by
  refine MetFree.of_bodyS (code := code) (maxLocals := maxLocals) (ret := ret) (by decide) ?_ ?_
  · intro args s m h hn
    obtain ⟨meth, c, h1, h2, h3, h4, h5, h6, -, -⟩ := Cond.code_spec hn (atoms_spec (ws := Jvm.Cond.code x code maxLocals ret :: tables_1) h _ List.mem_cons_self)
    exact ⟨meth, c, h1, h2, h3, h4, h5, h6⟩
  · intro p e s m args below meth c s₁ B hml0 hP _
    obtain ⟨rfl, hx, hbd, hgv⟩ := hP
    obtain ⟨scr, harrAt, hlist, hof, hsmall⟩ := hx
    obtain ⟨hcb, hkn, -, -⟩ := State.arrayAt?_spec harrAt
    have hown : s.vm.findClass R_law = some m.cls := findClass_of_methodNamed B.named
    have hts0 : ∀ c ∈ (Jvm.Cond.code x code maxLocals ret :: tables_1), c.before #[Value.ref b] s = true := atoms_spec (ws := Jvm.Cond.code x code maxLocals ret :: tables_1) B.pre
    have hts : ∀ w ∈ lw_tbl, w.before #[Value.ref b] s = true := k2_hts_sels lw_privs (fun w hw => hts0 w (List.mem_cons_of_mem _ hw)) lw_privs_ok
    have hml : c.maxLocals = 4 := B.maxLocals_eq (hts0 _ List.mem_cons_self)
    have X₀ : Stand p l e room_1 s m #[Value.ref b] below meth c s₁ [] 0 0 := Stand.of_body B
    have hh0 : s₁.heap = s.heap := by rw [B.state]; rfl
    have hsz : scr.slots.size = xs.length := by rw [← Array.length_toList, hlist, List.length_map]
    have hval : ∀ j : Nat, j < xs.length → scr.slots[j]? = some (.int (xs.getD j 0)) := fun j hj => by
      rw [← Array.getElem?_toList, hlist]
      simp [hj]
    have hbl : b < s.heap.size := (Array.getElem?_eq_some_iff.mp hcb).1
    have hX : va_X b xs.length (fun j => xs.getD j 0) s s.heap := ⟨scr, hcb, hof, hkn, hsz, hval⟩
    have K : W p l e room_1 s m #[Value.ref b] below meth c s₁.heap [] 0 0 (lw_Z below #[Value.ref b] s) (entryFrame m ([Value.ref b] : List Value).toArray 4) := by
      rw [hh0]
      exact whole_start l hflags hbd ⟨B.exec, B.bytes, B.returns, hml, hown, hts, hX, hbl, B.notSynchronized, hgv⟩
    obtain ⟨t, a1, o, b1, b2, b3⟩ := K s₁ rfl X₀
    exact ⟨t, o, a1, b1, b2, b3⟩
theorem lw_pre_spec {args : Array Value} {s : State} (h : (Jvm.Cond.and given_1 narrow_1).before args s = true) (hr : rest_1_c.before args s = true) : ∃ (b : Addr) (xs : List Int32), lw_P b xs args s := by
  have hs := flat_of_before _ h
  have hq := flat_of_before _ hr
  have hc : (Cond.count 1).before args s = true := hs _ (by decide +kernel)
  have harr : (Cond.arrayOf (.arg 0) .int).before args s = true := hs _ (by decide +kernel)
  have hle : (Cond.le (.length (.arg 0)) (.int 7)).before args s = true := hs _ (by decide +kernel)
  have hlen : (Cond.isInt (.length (.arg 0))).before args s = true := hq _ (by decide +kernel)
  have hall : (Cond.all (.arg 0) (.isInt (.elem (.arg 0) (.index 0)))).before args s = true := hq _ (by decide +kernel)
  obtain ⟨b, xs, hb, hx⟩ := State.ints_of_pre rfl harr hlen hall
  have hsm : xs.length < 2 ^ 31 := hx.choose_spec.2.2.2
  have hev : (Term.length (.arg 0)).eval args s none [] s = some (.int xs.length.toInt32) := hx.length_eval hb
  have hv := Cond.le_ints hev (show (Term.int 7).eval args s none [] s = some (.int 7) from rfl)
  have hd : xs.length.toInt32 ≤ 7 := by
    simpa [Cond.before, Cond.holds, hv] using hle
  have hN : xs.length ≤ 7 := (Int32.ofNat_le_ofNat hsm (by decide)).mp (show Int32.ofNat xs.length ≤ Int32.ofNat 7 from hd)
  exact ⟨b, xs, Cond.one_arg hc (show args[0]? = some (.ref b) from hb), hx, hN, h⟩
theorem lw_comes (l : Launch) (hflags : l.flags = flags0) : Comes l x (Jvm.Cond.code x code maxLocals ret :: tables_1) room_1 (fun tb e args s => Calls_1 tb e args s ∧ rest_1 tb e args s ∧ Pre_1 tb e args s)
    (fun _ _ args s o t => lw_Q args s o t) := by
  intro p e ha hc hk s m args below hf hfit hheap happ hpre
  obtain ⟨b, xs, hP⟩ := lw_pre_spec hpre.2.2 hpre.2.1
  obtain ⟨k, o, h1, h2, h3, hQ⟩ := lw_walk l hflags b xs p e ha hc hk s m args below hf ((Spec.applies_iff_loose hf).mp happ).1 hP trivial
  exact ⟨k, o, h1, h2, h3, hQ⟩
theorem lw_frame {s t : State} {o : Outcome} {args : Array Value} (h : Framed s o t [] 600000 7302250) :
    Framed s o t (fieldLocs frame_1_writes args s ++ arrayLocs frame_1_arrays args s ++ staticLocs frame_1_statics s) 600000 7302250 := h
theorem lw_limb (L : Cond) (hL : ∀ (args : Array Value) (s t : State), L.after args s (.returned (some (.int 1))) t = true) :
    ArmFor flags0 classFile x code maxLocals ret World_1 tables_1 room_1 Calls_1 rest_1 Pre_1
      (fun tb e a s o t => postC L tb e a s o t ∧ Framed s o t (fieldLocs frame_1_writes a s ++ arrayLocs frame_1_arrays a s ++ staticLocs frame_1_statics s) 600000 7302250) := by
  intro l hflags _ _ p e ha hc hk s m args below hf hfit hheap happ hpre
  obtain ⟨k, o, h1, h2, h3, rfl, hF⟩ := lw_comes l hflags p e ha hc hk s m args below hf hfit hheap happ hpre
  exact ⟨k, _, h1, h2, h3, hL args s _, lw_frame hF⟩
theorem i_vc : Claimed_1_1 ∧ Claimed_1_2 := ⟨lw_limb limb_1_1 (fun args s t => by simp [limb_1_1, Cond.after, Cond.holds, Cond.value]), lw_limb limb_1_2 (fun args s t => Cond.after_iff.mpr (by
  first | (rw [show limb_1_2 = Cond.eq .result (.int 1) from rfl, Cond.eq_ints (x := 1) (y := 1) rfl rfl]; simp; done) | (simp [limb_1_2, Cond.value, Term.eval]; done)))⟩

