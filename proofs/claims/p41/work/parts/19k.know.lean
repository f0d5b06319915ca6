section WR
variable {p : Program} {l : Launch} {e : Env} {R : Room} {s : State} {m : MethodId} {args : Array Value} {below : List Frame} {meth : Method} {c : Code} {H : Heap} {locs : List Loc} {cells slots : Nat} {Q : State → Prop}
variable {pc : Nat} {ls : Array Slot} {rest : List Value} {G : GG} {ws : va_W} {A : Nat → Prop} {y0 : MethodName} {b0 : ByteArray} {mL0 : Nat} {rt0 : Option FieldType} {a : Nat} {H0 : Heap}
end WR
theorem plq_0 : ∀ j : Fin 256, (nI (0 + j.1) ^^^ 1 = nI (if (0 + j.1) % 2 = 1 then 0 + j.1 - 1 else 0 + j.1 + 1)) ∧ (nI (0 + j.1) &&& (-2) = nI (0 + j.1 - (0 + j.1) % 2)) ∧ (nI (0 + j.1) ||| 1 = nI (0 + j.1 - (0 + j.1) % 2 + 1)) := by decide +kernel
theorem plq_1 : ∀ j : Fin 256, (nI (256 + j.1) ^^^ 1 = nI (if (256 + j.1) % 2 = 1 then 256 + j.1 - 1 else 256 + j.1 + 1)) ∧ (nI (256 + j.1) &&& (-2) = nI (256 + j.1 - (256 + j.1) % 2)) ∧ (nI (256 + j.1) ||| 1 = nI (256 + j.1 - (256 + j.1) % 2 + 1)) := by decide +kernel
theorem plq_2 : ∀ j : Fin 256, (nI (512 + j.1) ^^^ 1 = nI (if (512 + j.1) % 2 = 1 then 512 + j.1 - 1 else 512 + j.1 + 1)) ∧ (nI (512 + j.1) &&& (-2) = nI (512 + j.1 - (512 + j.1) % 2)) ∧ (nI (512 + j.1) ||| 1 = nI (512 + j.1 - (512 + j.1) % 2 + 1)) := by decide +kernel
theorem plq_3 : ∀ j : Fin 256, (nI (768 + j.1) ^^^ 1 = nI (if (768 + j.1) % 2 = 1 then 768 + j.1 - 1 else 768 + j.1 + 1)) ∧ (nI (768 + j.1) &&& (-2) = nI (768 + j.1 - (768 + j.1) % 2)) ∧ (nI (768 + j.1) ||| 1 = nI (768 + j.1 - (768 + j.1) % 2 + 1)) := by decide +kernel
theorem plq_4 : ∀ j : Fin 256, (nI (1024 + j.1) ^^^ 1 = nI (if (1024 + j.1) % 2 = 1 then 1024 + j.1 - 1 else 1024 + j.1 + 1)) ∧ (nI (1024 + j.1) &&& (-2) = nI (1024 + j.1 - (1024 + j.1) % 2)) ∧ (nI (1024 + j.1) ||| 1 = nI (1024 + j.1 - (1024 + j.1) % 2 + 1)) := by decide +kernel
theorem plq_5 : ∀ j : Fin 256, (nI (1280 + j.1) ^^^ 1 = nI (if (1280 + j.1) % 2 = 1 then 1280 + j.1 - 1 else 1280 + j.1 + 1)) ∧ (nI (1280 + j.1) &&& (-2) = nI (1280 + j.1 - (1280 + j.1) % 2)) ∧ (nI (1280 + j.1) ||| 1 = nI (1280 + j.1 - (1280 + j.1) % 2 + 1)) := by decide +kernel
theorem plq_6 : ∀ j : Fin 256, (nI (1536 + j.1) ^^^ 1 = nI (if (1536 + j.1) % 2 = 1 then 1536 + j.1 - 1 else 1536 + j.1 + 1)) ∧ (nI (1536 + j.1) &&& (-2) = nI (1536 + j.1 - (1536 + j.1) % 2)) ∧ (nI (1536 + j.1) ||| 1 = nI (1536 + j.1 - (1536 + j.1) % 2 + 1)) := by decide +kernel
theorem plq_7 : ∀ j : Fin 256, (nI (1792 + j.1) ^^^ 1 = nI (if (1792 + j.1) % 2 = 1 then 1792 + j.1 - 1 else 1792 + j.1 + 1)) ∧ (nI (1792 + j.1) &&& (-2) = nI (1792 + j.1 - (1792 + j.1) % 2)) ∧ (nI (1792 + j.1) ||| 1 = nI (1792 + j.1 - (1792 + j.1) % 2 + 1)) := by decide +kernel
theorem plq_8 : ∀ j : Fin 256, (nI (2048 + j.1) ^^^ 1 = nI (if (2048 + j.1) % 2 = 1 then 2048 + j.1 - 1 else 2048 + j.1 + 1)) ∧ (nI (2048 + j.1) &&& (-2) = nI (2048 + j.1 - (2048 + j.1) % 2)) ∧ (nI (2048 + j.1) ||| 1 = nI (2048 + j.1 - (2048 + j.1) % 2 + 1)) := by decide +kernel
theorem plq_9 : ∀ j : Fin 256, (nI (2304 + j.1) ^^^ 1 = nI (if (2304 + j.1) % 2 = 1 then 2304 + j.1 - 1 else 2304 + j.1 + 1)) ∧ (nI (2304 + j.1) &&& (-2) = nI (2304 + j.1 - (2304 + j.1) % 2)) ∧ (nI (2304 + j.1) ||| 1 = nI (2304 + j.1 - (2304 + j.1) % 2 + 1)) := by decide +kernel
theorem plq_10 : ∀ j : Fin 256, (nI (2560 + j.1) ^^^ 1 = nI (if (2560 + j.1) % 2 = 1 then 2560 + j.1 - 1 else 2560 + j.1 + 1)) ∧ (nI (2560 + j.1) &&& (-2) = nI (2560 + j.1 - (2560 + j.1) % 2)) ∧ (nI (2560 + j.1) ||| 1 = nI (2560 + j.1 - (2560 + j.1) % 2 + 1)) := by decide +kernel
theorem plq_11 : ∀ j : Fin 256, (nI (2816 + j.1) ^^^ 1 = nI (if (2816 + j.1) % 2 = 1 then 2816 + j.1 - 1 else 2816 + j.1 + 1)) ∧ (nI (2816 + j.1) &&& (-2) = nI (2816 + j.1 - (2816 + j.1) % 2)) ∧ (nI (2816 + j.1) ||| 1 = nI (2816 + j.1 - (2816 + j.1) % 2 + 1)) := by decide +kernel
theorem plq_12 : ∀ j : Fin 256, (nI (3072 + j.1) ^^^ 1 = nI (if (3072 + j.1) % 2 = 1 then 3072 + j.1 - 1 else 3072 + j.1 + 1)) ∧ (nI (3072 + j.1) &&& (-2) = nI (3072 + j.1 - (3072 + j.1) % 2)) ∧ (nI (3072 + j.1) ||| 1 = nI (3072 + j.1 - (3072 + j.1) % 2 + 1)) := by decide +kernel
theorem plq_13 : ∀ j : Fin 256, (nI (3328 + j.1) ^^^ 1 = nI (if (3328 + j.1) % 2 = 1 then 3328 + j.1 - 1 else 3328 + j.1 + 1)) ∧ (nI (3328 + j.1) &&& (-2) = nI (3328 + j.1 - (3328 + j.1) % 2)) ∧ (nI (3328 + j.1) ||| 1 = nI (3328 + j.1 - (3328 + j.1) % 2 + 1)) := by decide +kernel
theorem plq_14 : ∀ j : Fin 256, (nI (3584 + j.1) ^^^ 1 = nI (if (3584 + j.1) % 2 = 1 then 3584 + j.1 - 1 else 3584 + j.1 + 1)) ∧ (nI (3584 + j.1) &&& (-2) = nI (3584 + j.1 - (3584 + j.1) % 2)) ∧ (nI (3584 + j.1) ||| 1 = nI (3584 + j.1 - (3584 + j.1) % 2 + 1)) := by decide +kernel
theorem plq_15 : ∀ j : Fin 256, (nI (3840 + j.1) ^^^ 1 = nI (if (3840 + j.1) % 2 = 1 then 3840 + j.1 - 1 else 3840 + j.1 + 1)) ∧ (nI (3840 + j.1) &&& (-2) = nI (3840 + j.1 - (3840 + j.1) % 2)) ∧ (nI (3840 + j.1) ||| 1 = nI (3840 + j.1 - (3840 + j.1) % 2 + 1)) := by decide +kernel
theorem plq_16 : ∀ j : Fin 256, (nI (4096 + j.1) ^^^ 1 = nI (if (4096 + j.1) % 2 = 1 then 4096 + j.1 - 1 else 4096 + j.1 + 1)) ∧ (nI (4096 + j.1) &&& (-2) = nI (4096 + j.1 - (4096 + j.1) % 2)) ∧ (nI (4096 + j.1) ||| 1 = nI (4096 + j.1 - (4096 + j.1) % 2 + 1)) := by decide +kernel
theorem plq_17 : ∀ j : Fin 256, (nI (4352 + j.1) ^^^ 1 = nI (if (4352 + j.1) % 2 = 1 then 4352 + j.1 - 1 else 4352 + j.1 + 1)) ∧ (nI (4352 + j.1) &&& (-2) = nI (4352 + j.1 - (4352 + j.1) % 2)) ∧ (nI (4352 + j.1) ||| 1 = nI (4352 + j.1 - (4352 + j.1) % 2 + 1)) := by decide +kernel
theorem plq_18 : ∀ j : Fin 256, (nI (4608 + j.1) ^^^ 1 = nI (if (4608 + j.1) % 2 = 1 then 4608 + j.1 - 1 else 4608 + j.1 + 1)) ∧ (nI (4608 + j.1) &&& (-2) = nI (4608 + j.1 - (4608 + j.1) % 2)) ∧ (nI (4608 + j.1) ||| 1 = nI (4608 + j.1 - (4608 + j.1) % 2 + 1)) := by decide +kernel
theorem plq_19 : ∀ j : Fin 256, (nI (4864 + j.1) ^^^ 1 = nI (if (4864 + j.1) % 2 = 1 then 4864 + j.1 - 1 else 4864 + j.1 + 1)) ∧ (nI (4864 + j.1) &&& (-2) = nI (4864 + j.1 - (4864 + j.1) % 2)) ∧ (nI (4864 + j.1) ||| 1 = nI (4864 + j.1 - (4864 + j.1) % 2 + 1)) := by decide +kernel
theorem plq_20 : ∀ j : Fin 256, (nI (5120 + j.1) ^^^ 1 = nI (if (5120 + j.1) % 2 = 1 then 5120 + j.1 - 1 else 5120 + j.1 + 1)) ∧ (nI (5120 + j.1) &&& (-2) = nI (5120 + j.1 - (5120 + j.1) % 2)) ∧ (nI (5120 + j.1) ||| 1 = nI (5120 + j.1 - (5120 + j.1) % 2 + 1)) := by decide +kernel
theorem plq_21 : ∀ j : Fin 256, (nI (5376 + j.1) ^^^ 1 = nI (if (5376 + j.1) % 2 = 1 then 5376 + j.1 - 1 else 5376 + j.1 + 1)) ∧ (nI (5376 + j.1) &&& (-2) = nI (5376 + j.1 - (5376 + j.1) % 2)) ∧ (nI (5376 + j.1) ||| 1 = nI (5376 + j.1 - (5376 + j.1) % 2 + 1)) := by decide +kernel
theorem plq_22 : ∀ j : Fin 256, (nI (5632 + j.1) ^^^ 1 = nI (if (5632 + j.1) % 2 = 1 then 5632 + j.1 - 1 else 5632 + j.1 + 1)) ∧ (nI (5632 + j.1) &&& (-2) = nI (5632 + j.1 - (5632 + j.1) % 2)) ∧ (nI (5632 + j.1) ||| 1 = nI (5632 + j.1 - (5632 + j.1) % 2 + 1)) := by decide +kernel
theorem plq_23 : ∀ j : Fin 256, (nI (5888 + j.1) ^^^ 1 = nI (if (5888 + j.1) % 2 = 1 then 5888 + j.1 - 1 else 5888 + j.1 + 1)) ∧ (nI (5888 + j.1) &&& (-2) = nI (5888 + j.1 - (5888 + j.1) % 2)) ∧ (nI (5888 + j.1) ||| 1 = nI (5888 + j.1 - (5888 + j.1) % 2 + 1)) := by decide +kernel
theorem plq_24 : ∀ j : Fin 256, (nI (6144 + j.1) ^^^ 1 = nI (if (6144 + j.1) % 2 = 1 then 6144 + j.1 - 1 else 6144 + j.1 + 1)) ∧ (nI (6144 + j.1) &&& (-2) = nI (6144 + j.1 - (6144 + j.1) % 2)) ∧ (nI (6144 + j.1) ||| 1 = nI (6144 + j.1 - (6144 + j.1) % 2 + 1)) := by decide +kernel
theorem plq_25 : ∀ j : Fin 256, (nI (6400 + j.1) ^^^ 1 = nI (if (6400 + j.1) % 2 = 1 then 6400 + j.1 - 1 else 6400 + j.1 + 1)) ∧ (nI (6400 + j.1) &&& (-2) = nI (6400 + j.1 - (6400 + j.1) % 2)) ∧ (nI (6400 + j.1) ||| 1 = nI (6400 + j.1 - (6400 + j.1) % 2 + 1)) := by decide +kernel
theorem plq_26 : ∀ j : Fin 256, (nI (6656 + j.1) ^^^ 1 = nI (if (6656 + j.1) % 2 = 1 then 6656 + j.1 - 1 else 6656 + j.1 + 1)) ∧ (nI (6656 + j.1) &&& (-2) = nI (6656 + j.1 - (6656 + j.1) % 2)) ∧ (nI (6656 + j.1) ||| 1 = nI (6656 + j.1 - (6656 + j.1) % 2 + 1)) := by decide +kernel
theorem plq_27 : ∀ j : Fin 256, (nI (6912 + j.1) ^^^ 1 = nI (if (6912 + j.1) % 2 = 1 then 6912 + j.1 - 1 else 6912 + j.1 + 1)) ∧ (nI (6912 + j.1) &&& (-2) = nI (6912 + j.1 - (6912 + j.1) % 2)) ∧ (nI (6912 + j.1) ||| 1 = nI (6912 + j.1 - (6912 + j.1) % 2 + 1)) := by decide +kernel
theorem plq_28 : ∀ j : Fin 256, (nI (7168 + j.1) ^^^ 1 = nI (if (7168 + j.1) % 2 = 1 then 7168 + j.1 - 1 else 7168 + j.1 + 1)) ∧ (nI (7168 + j.1) &&& (-2) = nI (7168 + j.1 - (7168 + j.1) % 2)) ∧ (nI (7168 + j.1) ||| 1 = nI (7168 + j.1 - (7168 + j.1) % 2 + 1)) := by decide +kernel
theorem plq_29 : ∀ j : Fin 256, (nI (7424 + j.1) ^^^ 1 = nI (if (7424 + j.1) % 2 = 1 then 7424 + j.1 - 1 else 7424 + j.1 + 1)) ∧ (nI (7424 + j.1) &&& (-2) = nI (7424 + j.1 - (7424 + j.1) % 2)) ∧ (nI (7424 + j.1) ||| 1 = nI (7424 + j.1 - (7424 + j.1) % 2 + 1)) := by decide +kernel
theorem plq_30 : ∀ j : Fin 256, (nI (7680 + j.1) ^^^ 1 = nI (if (7680 + j.1) % 2 = 1 then 7680 + j.1 - 1 else 7680 + j.1 + 1)) ∧ (nI (7680 + j.1) &&& (-2) = nI (7680 + j.1 - (7680 + j.1) % 2)) ∧ (nI (7680 + j.1) ||| 1 = nI (7680 + j.1 - (7680 + j.1) % 2 + 1)) := by decide +kernel
theorem plq_31 : ∀ j : Fin 256, (nI (7936 + j.1) ^^^ 1 = nI (if (7936 + j.1) % 2 = 1 then 7936 + j.1 - 1 else 7936 + j.1 + 1)) ∧ (nI (7936 + j.1) &&& (-2) = nI (7936 + j.1 - (7936 + j.1) % 2)) ∧ (nI (7936 + j.1) ||| 1 = nI (7936 + j.1 - (7936 + j.1) % 2 + 1)) := by decide +kernel
theorem PLQ.all {q : Nat} (h : q < 8192) : (nI q ^^^ 1 = nI (if q % 2 = 1 then q - 1 else q + 1)) ∧ (nI q &&& (-2) = nI (q - q % 2)) ∧ (nI q ||| 1 = nI (q - q % 2 + 1)) := by
  obtain ⟨k, j, hk, hj, rfl⟩ : ∃ k j, k < 32 ∧ j < 256 ∧ q = 256 * k + j := ⟨q / 256, q % 256, by omega, Nat.mod_lt _ (by decide), (Nat.div_add_mod q 256).symm⟩
  rcases (show k = 0 ∨ k = 1 ∨ k = 2 ∨ k = 3 ∨ k = 4 ∨ k = 5 ∨ k = 6 ∨ k = 7 ∨ k = 8 ∨ k = 9 ∨ k = 10 ∨ k = 11 ∨ k = 12 ∨ k = 13 ∨ k = 14 ∨ k = 15 ∨ k = 16 ∨ k = 17 ∨ k = 18 ∨ k = 19 ∨ k = 20 ∨ k = 21 ∨ k = 22 ∨ k = 23 ∨ k = 24 ∨ k = 25 ∨ k = 26 ∨ k = 27 ∨ k = 28 ∨ k = 29 ∨ k = 30 ∨ k = 31 by omega) with rfl | rfl | rfl | rfl | rfl | rfl | rfl | rfl | rfl | rfl | rfl | rfl | rfl | rfl | rfl | rfl | rfl | rfl | rfl | rfl | rfl | rfl | rfl | rfl | rfl | rfl | rfl | rfl | rfl | rfl | rfl | rfl
  · exact plq_0 ⟨j, hj⟩
  · exact plq_1 ⟨j, hj⟩
  · exact plq_2 ⟨j, hj⟩
  · exact plq_3 ⟨j, hj⟩
  · exact plq_4 ⟨j, hj⟩
  · exact plq_5 ⟨j, hj⟩
  · exact plq_6 ⟨j, hj⟩
  · exact plq_7 ⟨j, hj⟩
  · exact plq_8 ⟨j, hj⟩
  · exact plq_9 ⟨j, hj⟩
  · exact plq_10 ⟨j, hj⟩
  · exact plq_11 ⟨j, hj⟩
  · exact plq_12 ⟨j, hj⟩
  · exact plq_13 ⟨j, hj⟩
  · exact plq_14 ⟨j, hj⟩
  · exact plq_15 ⟨j, hj⟩
  · exact plq_16 ⟨j, hj⟩
  · exact plq_17 ⟨j, hj⟩
  · exact plq_18 ⟨j, hj⟩
  · exact plq_19 ⟨j, hj⟩
  · exact plq_20 ⟨j, hj⟩
  · exact plq_21 ⟨j, hj⟩
  · exact plq_22 ⟨j, hj⟩
  · exact plq_23 ⟨j, hj⟩
  · exact plq_24 ⟨j, hj⟩
  · exact plq_25 ⟨j, hj⟩
  · exact plq_26 ⟨j, hj⟩
  · exact plq_27 ⟨j, hj⟩
  · exact plq_28 ⟨j, hj⟩
  · exact plq_29 ⟨j, hj⟩
  · exact plq_30 ⟨j, hj⟩
  · exact plq_31 ⟨j, hj⟩
theorem PLQ.shl {q : Nat} (h : q < 4096) : nI q <<< (1 &&& 31) = nI (2 * q) := by
  rw [pk_shlN (n := q) (1 &&& 31) 1 (by decide) (by omega)]
  exact congrArg nI (by omega)
theorem PLQ.shr {q : Nat} (h : q < 2 ^ 31) : nI q >>> (1 &&& 31) = nI (q / 2) := pk_shrN h (1 &&& 31) 1 (by decide)
theorem PLQ.low {q : Nat} (h : q < 2 ^ 31) : nI q &&& 1 = nI (q % 2) := pk_andN (by omega) 1 (by decide)
theorem PLQ.or1 {q : Nat} (h : q < 4096) : nI (2 * q) ||| 1 = nI (2 * q + 1) := by
  rw [(PLQ.all (q := 2 * q) (by omega)).2.2]
  exact congrArg nI (by omega)
theorem getD_mem : ∀ {l : List Int32} {k : Nat}, k < l.length → l.getD k 0 ∈ l
  | [], k, h => absurd h (Nat.not_lt_zero k)
  | x :: xs, 0, _ => List.mem_cons.mpr (Or.inl rfl)
  | x :: xs, k + 1, h => List.mem_cons.mpr (Or.inr (getD_mem (l := xs) (k := k) (Nat.lt_of_succ_lt_succ h)))
theorem PLN.tk {F : Nat → Int32} : ∀ (l : List Int32) (k q : Nat), k < l.length → PLN F (l.take (k + 1)) q = PLC F (l.getD k 0) (PLN F (l.take k) q)
  | [], k, _, h => absurd h (Nat.not_lt_zero k)
  | x :: xs, 0, q, _ => rfl
  | x :: xs, k + 1, q, h => PLN.tk xs k (PLC F x q) (Nat.lt_of_succ_lt_succ h)
theorem PBD.tk {F : Nat → Int32} {B : Nat} : ∀ (l : List Int32) (k q : Nat), PBD F B l q → k ≤ l.length → PLN F (l.take k) q < B
  | [], 0, q, h, _ => h
  | x :: xs, 0, q, h, _ => (show q < B ∧ PBD F B xs (PLC F x q) from h).1
  | [], k + 1, q, h, hk => absurd hk (Nat.not_succ_le_zero k)
  | x :: xs, k + 1, q, h, hk => PBD.tk xs k (PLC F x q) (show q < B ∧ PBD F B xs (PLC F x q) from h).2 (Nat.le_of_succ_le_succ hk)
/-- the pile behind the first k steps -/
def PTK (F : Nat → Int32) (l : List Int32) (k : Nat) : Nat := PLN F (l.take k) 1
theorem PTK.all {F : Nat → Int32} {l : List Int32} : PTK F l l.length = PLN F l 1 := by
  unfold PTK
  rw [List.take_length]
theorem PTK.lt {F : Nat → Int32} {l : List Int32} {k : Nat} (h : TCO l) (hk : k ≤ l.length) : PTK F l k < 4096 := PBD.tk l k 1 (h.2 F) hk
section PTKS
variable {F : Nat → Int32} {l : List Int32} {k pq : Nat}
theorem PTK.nx (h : pq = PTK F l k) (hk : k < l.length) {x : Int32} (e : l.getD k 0 = x) {r : Nat} (hr : PLC F x pq = r) : r = PTK F l (k + 1) := by
  have h2 : PTK F l (k + 1) = PLC F (l.getD k 0) (PTK F l k) := PLN.tk l k 1 hk
  rw [h2, e, ← h, hr]
theorem PTK.f1 (h : pq = PTK F l k) (hk : k < l.length) {v : Nat} (e : l.getD k 0 = nI v) (hv : v ≤ 14999) (hs : SOV F v = true) : 2 * pq + 1 = PTK F l (k + 1) := PTK.nx h hk e (by rw [PLC.fact hv, hs]; rfl)
theorem PTK.f0 (h : pq = PTK F l k) (hk : k < l.length) {v : Nat} (e : l.getD k 0 = nI v) (hv : v ≤ 14999) (hs : SOV F v = false) : 2 * pq = PTK F l (k + 1) := PTK.nx h hk e (by rw [PLC.fact hv, hs]; rfl)
theorem PTK.nt (h : pq = PTK F l k) (hk : k < l.length) (e : l.getD k 0 = -1) : (if pq % 2 = 1 then pq - 1 else pq + 1) = PTK F l (k + 1) := PTK.nx h hk e (if_pos rfl)
theorem PTK.a1 (h : pq = PTK F l k) (hk : k < l.length) (e : l.getD k 0 = -2) (c : pq % 2 = 1) : pq / 2 = PTK F l (k + 1) := PTK.nx h hk e (by unfold PLC; rw [if_neg (show ¬ (-2 : Int32) = -1 by decide), if_pos rfl, if_pos c])
theorem PTK.a0 (h : pq = PTK F l k) (hk : k < l.length) (e : l.getD k 0 = -2) (c : pq % 2 = 0) : pq / 2 - pq / 2 % 2 = PTK F l (k + 1) := PTK.nx h hk e (by unfold PLC; rw [if_neg (show ¬ (-2 : Int32) = -1 by decide), if_pos rfl, if_neg (by omega)])
theorem PTK.o1 (h : pq = PTK F l k) (hk : k < l.length) (e : l.getD k 0 = -3) (c : pq % 2 = 1) : pq / 2 - pq / 2 % 2 + 1 = PTK F l (k + 1) := PTK.nx h hk e (by unfold PLC; rw [if_neg (show ¬ (-3 : Int32) = -1 by decide), if_neg (show ¬ (-3 : Int32) = -2 by decide), if_pos rfl, if_pos c])
theorem PTK.o0 (h : pq = PTK F l k) (hk : k < l.length) (e : l.getD k 0 = -3) (c : pq % 2 = 0) : pq / 2 = PTK F l (k + 1) := PTK.nx h hk e (by unfold PLC; rw [if_neg (show ¬ (-3 : Int32) = -1 by decide), if_neg (show ¬ (-3 : Int32) = -2 by decide), if_pos rfl, if_neg (by omega)])
end PTKS
section SOVS
variable {F : Nat → Int32} {v : Nat}
theorem SOV.d (v : Nat) : v / 1000 / 3 = v / 3000 := by omega
theorem SOV.l {b : Bool} (h0 : v / 1000 % 3 = 0) (hb : decide (F (v / 1000 / 3) < nI (v % 1000)) = b) : SOV F v = b := by
  rw [SOV.d] at hb
  unfold SOV
  rw [if_pos h0, hb]
theorem SOV.e {b : Bool} (h0 : v / 1000 % 3 = 1) (hb : decide (F (v / 1000 / 3) = nI (v % 1000)) = b) : SOV F v = b := by
  rw [SOV.d] at hb
  unfold SOV
  rw [if_neg (by omega), if_pos h0, hb]
theorem SOV.g {b : Bool} (h0 : ¬ v / 1000 % 3 = 0) (h1 : ¬ v / 1000 % 3 = 1) (hb : decide (nI (v % 1000) < F (v / 1000 / 3)) = b) : SOV F v = b := by
  rw [SOV.d] at hb
  unfold SOV
  rw [if_neg h0, if_neg h1, hb]
end SOVS
theorem SOV.cg {F G : Nat → Int32} {v : Nat} (h : ∀ k, k < 5 → F k = G k) (hv : v ≤ 14999) : SOV F v = SOV G v := by
  unfold SOV
  rw [h (v / 3000) (by omega)]
theorem PLC.cg {F G : Nat → Int32} (h : ∀ k, k < 5 → F k = G k) {x : Int32} (hx : STV x) (q : Nat) : PLC F x q = PLC G x q := by
  rcases hx with h1 | h1 | h1 | ⟨v, hv, rfl⟩
  · unfold PLC
    rw [if_pos h1, if_pos h1]
  · have h2 : ¬ x = -1 := by rw [h1]; decide
    unfold PLC
    rw [if_neg h2, if_neg h2, if_pos h1, if_pos h1]
  · have h2 : ¬ x = -1 := by rw [h1]; decide
    have h3 : ¬ x = -2 := by rw [h1]; decide
    unfold PLC
    rw [if_neg h2, if_neg h2, if_neg h3, if_neg h3, if_pos h1, if_pos h1]
  · rw [PLC.fact hv, PLC.fact hv, SOV.cg h hv]
theorem PLN.cg {F G : Nat → Int32} (h : ∀ k, k < 5 → F k = G k) : ∀ (l : List Int32) (q : Nat), ALV STV l → PLN F l q = PLN G l q := by
  intro l
  induction l with
  | nil => exact fun _ _ => rfl
  | cons x xs ih =>
    intro q hl
    show PLN F xs (PLC F x q) = PLN G xs (PLC G x q)
    rw [PLC.cg h (hl x (List.mem_cons.mpr (Or.inl rfl))) q]
    exact ih _ (fun y hy => hl y (List.mem_cons.mpr (Or.inr hy)))
theorem IMB.bit {P : Nat → Prop} : ∀ n, n ≤ 12 → ∃ j, j < 2 ^ n ∧ IMB P n = nI j ∧ ∀ p, p < n → (j / 2 ^ p % 2 = 1 ↔ P p)
  | 0, _ => ⟨0, by decide, rfl, fun p h => absurd h (Nat.not_lt_zero p)⟩
  | n + 1, hn => by
    obtain ⟨j, hj, e, hb⟩ := IMB.bit (P := P) n (by omega)
    have h2 : 2 ^ n ≤ 2 ^ 11 := Nat.pow_le_pow_right (by decide) (by omega)
    have h3 : (2 : Nat) ^ 11 = 2048 := by decide
    have h4 : 2 ^ (n + 1) = 2 ^ n + 2 ^ n := by rw [Nat.pow_succ]; omega
    by_cases c : P n
    · refine ⟨j + 2 ^ n, by omega, ?_, fun p hp => ?_⟩
      · show ifc (P n) _ _ = _
        rw [ifc_t c, e]
        rw [(sh13 ⟨n, by omega⟩).1]
        exact or_pow hj (by omega)
      · by_cases hpn : p = n
        · rw [hpn]
          have h5 := Nat.add_div_right j (Nat.two_pow_pos n)
          have h6 := Nat.div_eq_of_lt hj
          rw [h5, h6]
          exact ⟨fun _ => c, fun _ => rfl⟩
        · obtain ⟨t, rfl⟩ : ∃ t, n = p + (t + 1) := ⟨n - p - 1, by omega⟩
          have h6 : 2 ^ (p + (t + 1)) = 2 ^ p * (2 * 2 ^ t) := by rw [Nat.pow_add, Nat.pow_succ, Nat.mul_comm (2 ^ t) 2]
          rw [h6, Nat.add_mul_div_left _ _ (Nat.two_pow_pos p), Nat.add_mul_mod_self_left]
          exact hb p (by omega)
    · refine ⟨j, by omega, ?_, fun p hp => ?_⟩
      · show ifc (P n) _ _ = _
        rw [ifc_f c, e]
      · by_cases hpn : p = n
        · rw [hpn, Nat.div_eq_of_lt hj]
          exact ⟨fun h => absurd h (by decide), fun h => absurd h c⟩
        · exact hb p (by omega)
theorem IMB.hb {P : Nat → Prop} {n p : Nat} (hn : n ≤ 12) (hp : p < n) : HB (IMB P n) (nI p) ↔ P p := by
  obtain ⟨j, hj, e, hb⟩ := IMB.bit (P := P) n hn
  have h2 : 2 ^ n ≤ 2 ^ 12 := Nat.pow_le_pow_right (by decide) hn
  have h3 : (2 : Nat) ^ 12 = 4096 := by decide
  have h5 := (sh13 ⟨p, by omega⟩).2.1
  have h6 : j / 2 ^ p ≤ j := Nat.div_le_self _ _
  have h7 : (nI j >>> (nI p &&& 31)) &&& 1 = nI (j / 2 ^ p % 2) := by
    rw [pk_shrN (by omega) _ p h5]
    exact pk_andN (by omega) 1 (by decide)
  rw [e, ← hb p hp]
  constructor
  · intro h
    have h8 := h7.symm.trans h.2.2
    exact (nI_eq (b := 1) (by omega) (by decide)).mp h8
  · intro h
    refine HB.mk (by omega) ?_
    rw [h7, h]
    rfl
/-- a line's steps where the class keeps them -/
def HSG (fl fs : Nat → Int32) (ks li : Nat) (tc : List Int32) : Prop := ∃ a, fl (li * 7 + 5) = nI a ∧ fl (li * 7 + 6) = nI tc.length ∧ a + tc.length ≤ ks ∧ (∀ k, k < tc.length → fs (a + k) = tc.getD k 0) ∧ TCO tc
theorem LZC.hsg {fl fs : Nat → Int32} {ks li : Nat} {ln : LNT} {tc : List Int32} (h : LZC fl fs ks li ln tc) : HSG fl fs ks li tc := by
  obtain ⟨-, h2, -, -, -, -, a, h7, h8, h9, h10⟩ := h
  exact ⟨a, h7, h8, h9, h10, h2⟩
/-- the version that rules; its lines; which of them hold -/
noncomputable def RLO (DY : Nat → Int32) (dv : Int32) (kv : Nat) : Option Nat := LTS (fun v9 => DY v9 ≤ dv) kv
def LVN (o : Option Nat) (VL : Nat → List LNT) : Nat := match o with | none => 0 | some v => (VL v).length
def LNF (o : Option Nat) (VL : Nat → List LNT) (i : Nat) : LNT := match o with | none => LN0 | some v => (VL v).getD i LN0
def TRF (o : Option Nat) (VC : Nat → Nat → List Int32) (F : Nat → Int32) (i : Nat) : Prop := match o with | none => False | some v => PLN F (VC v i) 1 % 2 = 1
noncomputable def LVF (LN : Nat → LNT) (TR : Nat → Prop) : Nat → LVT := fun i => LVX (LN i) (TR i)
/-- what the rules of a person are, as the class holds them -/
def RUP (fl : Nat → Int32) (kl : Nat) (r1 : Int32) (n : Nat) (rh : Int32) (LN : Nat → LNT) (TR : Nat → Prop) : Prop := n ≤ 9 ∧ ∃ lo, r1 = nI lo ∧ lo + n ≤ kl ∧ ∀ i, i < n → LNB (LN i) ∧ fl ((lo + i) * 7 + 0) = nI (LN i).1 ∧ fl ((lo + i) * 7 + 1) = (LN i).2.1 ∧ fl ((lo + i) * 7 + 2) = (LN i).2.2.1 ∧ fl ((lo + i) * 7 + 3) = (LN i).2.2.2.1 ∧ (HB rh (nI i) ↔ TR i)
theorem RUP.lvb {fl : Nat → Int32} {kl n : Nat} {r1 rh : Int32} {LN : Nat → LNT} {TR : Nat → Prop} (h : RUP fl kl r1 n rh LN TR) : ∀ i, i < n → LVB (LVF LN TR i) := fun i hi => by
  obtain ⟨-, lo, -, -, h4⟩ := h
  exact LVX.b (h4 i hi).1
noncomputable def FAX (fe fp : Nat → Int32) (V : Nat → Prop) (kp e : Nat) : Nat → Int32 := fun k => if k = 0 then nI e else if k = 1 then fe (e * 2 + 0) else if k = 2 then CNT (fun p9 => V p9 ∧ HB (fp (p9 * 6 + 1)) (nI e)) kp else if k = 3 then CNT (fun p9 => V p9 ∧ fp (p9 * 6 + 0) = nI e) kp else fe (e * 2 + 1)
theorem FAX.mk {f fe fp : Nat → Int32} {pp : Int32} {kp e : Nat} : ∀ k, k < 5 → upd (upd (upd (upd (upd f 0 (nI e)) 1 (fe (e * 2 + 0))) 2 (CNT (fun p9 => HB pp (nI p9) ∧ HB (fp (p9 * 6 + 1)) (nI e)) kp)) 3 (CNT (fun p9 => HB pp (nI p9) ∧ fp (p9 * 6 + 0) = nI e) kp)) 4 (fe (e * 2 + 1)) k = FAX fe fp (VPP pp) kp e k := by
  intro k hk
  rcases (show k = 0 ∨ k = 1 ∨ k = 2 ∨ k = 3 ∨ k = 4 by omega) with rfl | rfl | rfl | rfl | rfl
  · rfl
  · rfl
  · rfl
  · rfl
  · rfl
theorem RUP.mk0 {fl : Nat → Int32} {kl : Nat} {VL : Nat → List LNT} {VC : Nat → Nat → List Int32} {F : Nat → Int32} {rh : Int32} {o : Option Nat} (eo : none = o) : RUP fl kl 0 0 rh (LNF o VL) (TRF o VC F) := ⟨Nat.zero_le _, 0, rfl, Nat.zero_le _, fun i h => absurd h (Nat.not_lt_zero i)⟩
theorem RUP.mk1 {fv fl fs : Nat → Int32} {kv kl ks v lo n : Nat} {VL : Nat → List LNT} {VC : Nat → Nat → List Int32} {DY F G : Nat → Int32} {rh : Int32} {o : Option Nat} (eo : some v = o) (h : VCZ fv fl fs kv kl ks VL VC DY) (hv : v < kv) (e1 : fv (v * 3 + 1) = nI lo) (hlo : lo < 2 ^ 31) (en : n = (VL v).length) (hF : ∀ k, k < 5 → G k = F k) (hr : rh = IMB (fun i9 => PLN G (VC v i9) 1 % 2 = 1) n) (hkl : kl ≤ 72) : RUP fl kl (nI lo) n rh (LNF o VL) (TRF o VC F) := by
  subst eo
  obtain ⟨-, h1, lo2, h2, h3, h4, h5⟩ := h v hv
  obtain rfl : lo = lo2 := (nI_eq hlo (by omega)).mp (e1.symm.trans h2)
  refine ⟨by omega, lo, rfl, by omega, fun i hi => ?_⟩
  obtain ⟨b1, b2, b3, b4, b5, b6, -⟩ := h5 i (by omega)
  refine ⟨b1, b3, b4, b5, b6, ?_⟩
  rw [hr, IMB.hb (by omega) hi]
  show PLN G (VC v i) 1 % 2 = 1 ↔ PLN F (VC v i) 1 % 2 = 1
  rw [PLN.cg hF _ _ b2.1]
theorem tat_neg {W k : Nat} {f : Nat → Int32} {col : Int32} : tat W f k (-1) col = 0 := ifc_f (fun h9 => h9.1 (by decide))
/-- what a line tells, as thingOf says it -/
def THV (L : LVT) (t : Int32) : Prop := (L = none ∧ t = -1) ∨ ∃ j o w, L = some (j, o, w) ∧ t = nI j ∧ j < 8
theorem LVX.y {ln : LNT} {t : Prop} (h : t) : LVX ln t = LVO ln := ifq_t h
theorem LVX.n {ln : LNT} {t : Prop} (h : ¬ t) : LVX ln t = none := ifq_f h
theorem THV.off {ln : LNT} {t : Prop} (h : ¬ t) : THV (LVX ln t) (-1) := Or.inl ⟨LVX.n h, rfl⟩
theorem THV.t0 {ln : LNT} {t : Prop} (hb : LNB ln) (h : t) (h0 : ln.1 = 0) : THV (LVX ln t) ln.2.2.1 := by
  rw [LVX.y h]
  rcases hb with ⟨-, a, b, c, ha, hb, hc, e1, e2, e3⟩ | ⟨h1, -⟩ | ⟨h1, -⟩ | ⟨h1, -⟩
  · refine Or.inr ⟨b, some c, a, ?_, e2, by omega⟩
    unfold LVO
    rw [if_pos h0, e1, e2, e3, nI_clamp (by omega), nI_clamp (by omega), nI_clamp (by omega)]
  · omega
  · omega
  · omega
theorem THV.t2 {ln : LNT} {t : Prop} (hb : LNB ln) (h : t) (h0 : ln.1 = 2) : THV (LVX ln t) ln.2.1 := by
  rw [LVX.y h]
  rcases hb with ⟨h1, -⟩ | ⟨h1, -⟩ | ⟨h1, a, b, ha, hb, e1, e2⟩ | ⟨h1, -⟩
  · omega
  · omega
  · refine Or.inr ⟨a, none, b, ?_, e1, by omega⟩
    unfold LVO
    rw [if_neg (by omega), if_pos h0, e1, e2, nI_clamp (by omega), nI_clamp (by omega)]
  · omega
theorem THV.tn {ln : LNT} {t : Prop} (h : t) (h0 : ¬ ln.1 = 0) (h2 : ¬ ln.1 = 2) : THV (LVX ln t) (-1) := by
  rw [LVX.y h]
  refine Or.inl ⟨?_, rfl⟩
  unfold LVO
  rw [if_neg h0, if_neg h2]
theorem THV.out {L : LVT} {t : Int32} (h : THV L t) (hn : ¬ Wi t 0 7) : L = none := by
  rcases h with ⟨h, -⟩ | ⟨j, o, w, -, e, hj⟩
  · exact h
  · refine absurd ?_ hn
    rw [e]
    exact Wi_j (N := 7) rfl (by decide) (by omega)
theorem THV.inn {L : LVT} {t : Int32} (h : THV L t) (hn : Wi t 0 7) : ∃ j o w, j < 8 ∧ t = nI j ∧ L = some (j, o, w) := by
  rcases h with ⟨-, e⟩ | ⟨j, o, w, e1, e2, hj⟩
  · rw [e] at hn
    exact absurd hn (by unfold Wi; decide)
  · exact ⟨j, o, w, hj, e2, e1⟩
theorem LVX.inv {ln : LNT} {t : Prop} {a w : Nat} {o : Option Nat} (h : LVX ln t = some (a, o, w)) (hb : LNB ln) : t ∧ ((ln.1 = 0 ∧ ∃ c, o = some c ∧ c < 8 ∧ w ≤ 99 ∧ ln.2.1 = nI w ∧ ln.2.2.2.1 = nI c) ∨ (ln.1 = 2 ∧ o = none ∧ w ≤ 999 ∧ ln.2.2.1 = nI w)) := by
  by_cases c : t
  · refine ⟨c, ?_⟩
    rw [LVX.y c] at h
    unfold LVO at h
    rcases hb with ⟨h1, x, y, z, hx, hy, hz, e1, e2, e3⟩ | ⟨h1, -⟩ | ⟨h1, x, y, hx, hy, e1, e2⟩ | ⟨h1, -⟩
    · rw [if_pos h1, e1, e2, e3, nI_clamp (by omega), nI_clamp (by omega), nI_clamp (by omega)] at h
      cases h
      exact Or.inl ⟨h1, z, rfl, by omega, hx, e1, e3⟩
    · rw [if_neg (by omega), if_neg (by omega)] at h
      cases h
    · rw [if_neg (by omega), if_pos h1, e1, e2, nI_clamp (by omega), nI_clamp (by omega)] at h
      cases h
      exact Or.inr ⟨h1, rfl, hy, e2⟩
    · rw [if_neg (by omega), if_neg (by omega)] at h
      cases h
  · rw [LVX.n c] at h
    cases h
theorem ARS.at {N : Int32} {S : HOP} {f : Nat → Int32} {c : Nat} (h : ARS N S f) (hb : HBD S) (hc : c < 8) (hN : 2000 ≤ N.toInt) : (f c = N ∧ S c = none) ∨ (¬ f c = N ∧ ∃ h, S c = some h ∧ (f c).toInt = h ∧ -200 ≤ h ∧ h ≤ 1992) := by
  rcases h c hc with ⟨h1, h2⟩ | ⟨x, h1, h2⟩
  · exact Or.inl ⟨h2, h1⟩
  · have h3 := hb.lim hc h1
    refine Or.inr ⟨fun h4 => ?_, x, h1, h2, h3⟩
    rw [h4] at h2
    omega
theorem HBY.nv {N : Int32} {S : HOP} {f : Nat → Int32} {c w : Nat} (h : ARS N S f) (hb : HBD S) (hc : c < 8) (hN : 2000 ≤ N.toInt) (e : f c = N) : ARV N (HRV (some c) w S) N := by
  rcases h.at hb hc hN with ⟨-, h2⟩ | ⟨h1, -⟩
  · refine Or.inl ⟨?_, rfl⟩
    show (match S c with | none => none | some h => some (h + (w : Int))) = none
    rw [h2]
  · exact absurd e h1
theorem HBY.sm {N : Int32} {S : HOP} {f : Nat → Int32} {c w : Nat} (h : ARS N S f) (hb : HBD S) (hc : c < 8) (hN : 2000 ≤ N.toInt) (e : ¬ f c = N) (hw : w ≤ 99) : ARV N (HRV (some c) w S) (f c + nI w) := by
  rcases h.at hb hc hN with ⟨h1, -⟩ | ⟨-, x, h1, h2, h3, h4⟩
  · exact absurd h1 e
  · have e1 := nI_toInt (n := w) (by omega)
    refine Or.inr ⟨x + (w : Int), ?_, ?_⟩
    · show (match S c with | none => none | some h => some (h + (w : Int))) = some (x + (w : Int))
      rw [h1]
    · rw [ti_ad (by omega) (by omega) (by omega) (by omega), h2, e1]
theorem HBY.ask {N : Int32} {S : HOP} {w : Nat} (hw : w ≤ 999) : ARV N (HRV none w S) (nI w) := Or.inr ⟨(w : Int), rfl, nI_toInt (by omega)⟩
/-- a line that tells nothing earlier; one that does -/
theorem RLX.same {N : Int32} {S : HOP} {f : Nat → Int32} {t w : Nat} {o : Option Nat} {x : Int32} {L : LVT} (h : ARS N S f) (hb : HBD S) (hL : LVB L) (e : L = some (t, o, w)) (hx : ARV N (HRV o w S) x) (hn : ¬ x < f t) (hN : 2000 ≤ N.toInt) : RLX L S = S := by
  obtain ⟨ht, -, -⟩ := hL t o w e
  rw [e]
  show LOW S t (HRV o w S) = S
  rcases hx with ⟨e1, -⟩ | ⟨v, e1, e2⟩
  · rw [e1]
    rfl
  · rw [e1]
    refine LOW.n (fun h9 => hn ?_)
    rw [Int32.lt_iff_toInt_lt, e2]
    have hb2 := (hb.rlx hL)
    rw [e] at hb2
    have hb3 : HBD (LOW S t (HRV o w S)) := hb2
    rw [e1, LOW.y h9] at hb3
    have h10 := hb3.lim ht (if_pos rfl)
    rcases h.at hb ht hN with ⟨h1, h2⟩ | ⟨-, y, h1, h2, h3⟩
    · rw [h1]
      omega
    · rw [h2]
      rw [h1] at h9
      exact h9
theorem RLX.low {N : Int32} {S : HOP} {f : Nat → Int32} {t w : Nat} {o : Option Nat} {x : Int32} {L : LVT} (h : ARS N S f) (e : L = some (t, o, w)) (hb : HBD S) (ht : t < 8) (hx : ARV N (HRV o w S) x) (hn : x < f t) (hN : 2000 ≤ N.toInt) : ARS N (RLX L S) (upd f t x) := by
  rw [e]
  show ARS N (LOW S t (HRV o w S)) (upd f t x)
  rcases hx with ⟨e1, e2⟩ | ⟨v, e1, e2⟩
  · rw [Int32.lt_iff_toInt_lt, e2] at hn
    rcases h.at hb ht hN with ⟨h1, h2⟩ | ⟨-, y, h1, h2, h3, h4⟩
    · rw [h1] at hn
      exact absurd hn (Int.lt_irrefl _)
    · omega
  · rw [e1]
    have c : LTO v (S t) := by
      rw [Int32.lt_iff_toInt_lt, e2] at hn
      rcases h t ht with ⟨h1, -⟩ | ⟨y, h1, h2⟩
      · rw [h1]; exact trivial
      · rw [h1]
        show v < y
        omega
    rw [LOW.y c]
    intro j hj
    show ARV N (if j = t then some v else S j) (upd f t x j)
    by_cases d : j = t
    · rw [if_pos d, show upd f t x j = x from if_pos d]
      exact Or.inr ⟨v, rfl, e2⟩
    · rw [if_neg d, show upd f t x j = f j from if_neg d]
      exact h j hj
theorem RLX.off {L : LVT} {S : HOP} (h : L = none) : RLX L S = S := by
  rw [h]
  rfl
/-- told by a paper that was in hand -/
def TC1 (K : Nat → Nat → Int → Prop) (ft : Nat → Int32) (V : Nat → Prop) (fp fe : Nat → Int32) (k p e : Nat) (su : Int32) (t : Nat) (h : Int) : Prop := HB (fp (p * 6 + 2)) (nI t) ∧ ∃ f u, INQ K ft V (fp (p * 6 + 0)) (fp (p * 6 + 1)) (fe (e * 2 + 1)) k p e f u ∧ ((su = 0 ∧ h = f.toInt) ∨ (¬ su = 0 ∧ h = u.toInt))
def TCD (K : Nat → Nat → Int → Prop) (ft : Nat → Int32) (V : Nat → Prop) (fp fe : Nat → Int32) (k kp e : Nat) (su : Int32) (t : Nat) (h : Int) : Prop := ∃ p, p < kp ∧ TC1 K ft V fp fe k p e su t h
section TCDS
variable {K : Nat → Nat → Int → Prop} {ft : Nat → Int32} {V : Nat → Prop} {fp fe : Nat → Int32} {k kp p e t : Nat} {su x y N : Int32} {f u : Int32}
theorem TC1.n1 (h : ¬ HB (fp (p * 6 + 2)) (nI t)) : ∀ z, ¬ TC1 K ft V fp fe k p e su t z := fun _ h2 => h h2.1
theorem TC1.n2 (h : NIQ K ft V (fp (p * 6 + 0)) (fp (p * 6 + 1)) k p e) : ∀ z, ¬ TC1 K ft V fp fe k p e su t z := fun _ h2 => by
  obtain ⟨-, f, u, h3, -⟩ := h2
  exact h3.no h
theorem TC1.mk (hb : HB (fp (p * 6 + 2)) (nI t)) (hi : INQ K ft V (fp (p * 6 + 0)) (fp (p * 6 + 1)) (fe (e * 2 + 1)) k p e f u) (hy : (su = 0 ∧ y = f) ∨ (¬ su = 0 ∧ y = u)) : TC1 K ft V fp fe k p e su t y.toInt := ⟨hb, f, u, hi, hy.imp (fun h => ⟨h.1, congrArg Int32.toInt h.2⟩) (fun h => ⟨h.1, congrArg Int32.toInt h.2⟩)⟩
theorem TC1.uq {a b : Int} (hS : SVL ft k) (h1 : TC1 K ft V fp fe k p e su t a) (h2 : TC1 K ft V fp fe k p e su t b) : a = b := by
  obtain ⟨-, f, u, i1, c1⟩ := h1
  obtain ⟨-, g, v, i2, c2⟩ := h2
  obtain ⟨e1, e2⟩ := i1.uniq hS i2
  subst e1 e2
  rcases c1 with ⟨a1, b1⟩ | ⟨a1, b1⟩
  · rcases c2 with ⟨a2, b2⟩ | ⟨a2, b2⟩
    · rw [b1, b2]
    · exact absurd a1 a2
  · rcases c2 with ⟨a2, b2⟩ | ⟨a2, b2⟩
    · exact absurd a2 a1
    · rw [b1, b2]
theorem TC1.bd {a : Int} (hS : SVL ft k) (h0 : 0 ≤ (fe (e * 2 + 1)).toInt) (h48 : (fe (e * 2 + 1)).toInt ≤ 48) (h : TC1 K ft V fp fe k p e su t a) : -200 ≤ a ∧ a ≤ 1167 := by
  obtain ⟨-, f, u, i1, c1⟩ := h
  have h1 := HIQ.le hS h0 h48 (Or.inl i1)
  have h2 := h1.1
  rw [Int32.le_iff_toInt_le] at h2
  rcases c1 with ⟨-, b1⟩ | ⟨-, b1⟩
  · omega
  · omega
def IMN (x y : Int32) : Int32 := if y < x then y else x
theorem LST9.zero : LST9 (TCD K ft V fp fe k 0 e su t) N N := Or.inl ⟨rfl, fun y ⟨p, hp, _⟩ => absurd hp (Nat.not_lt_zero p)⟩
theorem LST9.sk (h : LST9 (TCD K ft V fp fe k kp e su t) N x) (hn : ∀ z, ¬ TC1 K ft V fp fe k kp e su t z) : LST9 (TCD K ft V fp fe k (kp + 1) e su t) N x := by
  have up : ∀ z, TCD K ft V fp fe k (kp + 1) e su t z → TCD K ft V fp fe k kp e su t z := fun z ⟨p, hp, h2⟩ => by
    by_cases c : p = kp
    · rw [c] at h2
      exact absurd h2 (hn z)
    · exact ⟨p, by omega, h2⟩
  rcases h with ⟨h1, h2⟩ | ⟨⟨p, hp, h1⟩, h2⟩
  · exact Or.inl ⟨h1, fun y hy => h2 y (up y hy)⟩
  · exact Or.inr ⟨⟨p, by omega, h1⟩, fun y hy => h2 y (up y hy)⟩
theorem LST9.tk (h : LST9 (TCD K ft V fp fe k kp e su t) N x) (hS : SVL ft k) (h0 : 0 ≤ (fe (e * 2 + 1)).toInt) (h48 : (fe (e * 2 + 1)).toInt ≤ 48) (hN : 2000 ≤ N.toInt) (hc : TC1 K ft V fp fe k kp e su t y.toInt) : LST9 (TCD K ft V fp fe k (kp + 1) e su t) N (IMN x y) := by
  have hy := hc.bd hS h0 h48
  have dn : ∀ z, TCD K ft V fp fe k (kp + 1) e su t z → z = y.toInt ∨ TCD K ft V fp fe k kp e su t z := fun z ⟨p, hp, h2⟩ => by
    by_cases c : p = kp
    · rw [c] at h2
      exact Or.inl (h2.uq hS hc)
    · exact Or.inr ⟨p, by omega, h2⟩
  have me : TCD K ft V fp fe k (kp + 1) e su t y.toInt := ⟨kp, by omega, hc⟩
  unfold IMN
  by_cases c : y < x
  · rw [if_pos c]
    rw [Int32.lt_iff_toInt_lt] at c
    refine Or.inr ⟨me, fun z hz => ?_⟩
    rcases dn z hz with rfl | hz
    · exact Int.le_refl _
    · rcases h with ⟨-, h2⟩ | ⟨-, h2⟩
      · exact absurd hz (h2 z)
      · have h3 := h2 z hz
        omega
  · rw [if_neg c]
    rw [Int32.lt_iff_toInt_lt] at c
    rcases h with ⟨h1, h2⟩ | ⟨⟨p, hp, h1⟩, h2⟩
    · rw [h1] at c
      omega
    · refine Or.inr ⟨⟨p, by omega, h1⟩, fun z hz => ?_⟩
      rcases dn z hz with rfl | hz
      · omega
      · exact h2 z hz
end TCDS
/-- from which hour one knew it, in a way -/
noncomputable def S0F (K : Nat → Nat → Int → Prop) (ft : Nat → Int32) (V : Nat → Prop) (fp fe : Nat → Int32) (k kp e : Nat) : HOP := fun t9 => TOF (TCD K ft V fp fe k kp e 1 t9)
theorem S0F.hbd {K : Nat → Nat → Int → Prop} {ft : Nat → Int32} {V : Nat → Prop} {fp fe : Nat → Int32} {k kp e : Nat} (hS : SVL ft k) (h0 : 0 ≤ (fe (e * 2 + 1)).toInt) (h48 : (fe (e * 2 + 1)).toInt ≤ 48) : HBD (S0F K ft V fp fe k kp e) := fun t ht h eh => by
  by_cases c : ∃ x, TCD K ft V fp fe k kp e 1 t x ∧ ∀ y, TCD K ft V fp fe k kp e 1 t y → x ≤ y
  · obtain ⟨x, h1, h2⟩ := c
    have h3 : S0F K ft V fp fe k kp e t = some x := TOF.some h1 h2
    rw [h3] at eh
    have h4 : x = h := Option.some.inj eh
    obtain ⟨p, -, h5⟩ := h1
    have h6 := h5.bd hS h0 h48
    omega
  · have h3 : S0F K ft V fp fe k kp e t = none := ifq_f c
    rw [h3] at eh
    cases eh
/-- the hours of things so far told -/
def TDP (N : Int32) (S : HOP) (f : Nat → Int32) (k : Nat) : Prop := ∀ t, t < k → ARV N (S t) (f t)
theorem TDP.zero {N : Int32} {S : HOP} {f : Nat → Int32} : TDP N S f 0 := fun t h => absurd h (Nat.not_lt_zero t)
theorem TDP.next {N x : Int32} {S : HOP} {f : Nat → Int32} {k : Nat} (h : TDP N S f k) (hx : ARV N (S k) x) : TDP N S (upd f k x) (k + 1) := fun t ht => by
  by_cases c : t = k
  · rw [c, show upd f k x k = x from if_pos rfl]
    exact hx
  · rw [show upd f k x t = f t from if_neg c]
    exact h t (by omega)
/-- the things one should know -/
noncomputable def SHF (K : Nat → Nat → Int → Prop) (ft : Nat → Int32) (V : Nat → Prop) (fp fe : Nat → Int32) (k kp e : Nat) (LV : Nat → LVT) (n : Nat) : HOP := PIT LV n 9 (S0F K ft V fp fe k kp e)
noncomputable def KWO (K : Nat → Nat → Int → Prop) (ft : Nat → Int32) (V : Nat → Prop) (fp fe : Nat → Int32) (k kp e : Nat) (LV : Nat → LVT) (n t : Nat) (wy : Int32) : Option Int := ifq (wy = 2) (SHF K ft V fp fe k kp e LV n t) (TOF (TCD K ft V fp fe k kp e (ifc (wy = 0) 1 0) t))
theorem PIT.to9 {LV : Nat → LVT} {n j : Nat} {S : HOP} (hj : j ≤ 9) (h : PSS LV n (PIT LV n j S) = PIT LV n j S) : PIT LV n 9 S = PIT LV n j S := by
  obtain ⟨d, hd⟩ : ∃ d, 9 = j + d := ⟨9 - j, by omega⟩
  have e : PIT LV n (j + d) S = PIT LV n j S := by rw [PIT.add, PIT.fix h]
  rw [← hd] at e
  exact e
/-- as ARV, within bounds -/
def ARW (N : Int32) (o : Option Int) (x : Int32) : Prop := (o = none ∧ x = N) ∨ ∃ h, o = some h ∧ x.toInt = h ∧ -200 ≤ h ∧ h ≤ 1992
theorem TOF.of {C : Int → Prop} {h : Int} (e : TOF C = Option.some h) : C h := by
  by_cases c : ∃ x, C x ∧ ∀ y, C y → x ≤ y
  · obtain ⟨x, h1, h2⟩ := c
    rw [TOF.some h1 h2] at e
    cases e
    exact h1
  · have e2 : TOF C = Option.none := ifq_f c
    rw [e2] at e
    cases e
section KWOS
variable {K : Nat → Nat → Int → Prop} {ft : Nat → Int32} {V : Nat → Prop} {fp fe : Nat → Int32} {k kp e n t : Nat} {N x wy : Int32} {LV : Nat → LVT}
theorem KWO.n0 (hS : SVL ft k) (h0 : 0 ≤ (fe (e * 2 + 1)).toInt) (h48 : (fe (e * 2 + 1)).toInt ≤ 48) (h2 : ¬ wy = 2) (hy : wy = 0) (h : ARV N (TOF (TCD K ft V fp fe k kp e 1 t)) x) : ARW N (KWO K ft V fp fe k kp e LV n t wy) x := by
  have e1 : KWO K ft V fp fe k kp e LV n t wy = TOF (TCD K ft V fp fe k kp e 1 t) := (ifq_f h2).trans (by rw [ifc_t hy])
  rw [e1]
  rcases h with h | ⟨v, h1, h3⟩
  · exact Or.inl h
  · obtain ⟨p, -, h4⟩ := TOF.of h1
    have h5 := h4.bd hS h0 h48
    exact Or.inr ⟨v, h1, h3, by omega, by omega⟩
theorem KWO.n1 (hS : SVL ft k) (h0 : 0 ≤ (fe (e * 2 + 1)).toInt) (h48 : (fe (e * 2 + 1)).toInt ≤ 48) (h2 : ¬ wy = 2) (hy : ¬ wy = 0) (h : ARV N (TOF (TCD K ft V fp fe k kp e 0 t)) x) : ARW N (KWO K ft V fp fe k kp e LV n t wy) x := by
  have e1 : KWO K ft V fp fe k kp e LV n t wy = TOF (TCD K ft V fp fe k kp e 0 t) := (ifq_f h2).trans (by rw [ifc_f hy])
  rw [e1]
  rcases h with h | ⟨v, h1, h3⟩
  · exact Or.inl h
  · obtain ⟨p, -, h4⟩ := TOF.of h1
    have h5 := h4.bd hS h0 h48
    exact Or.inr ⟨v, h1, h3, by omega, by omega⟩
theorem SHF.w {S : HOP} (hB : HBD S) (ht : t < 8) (h : ARV N (S t) x) : ARW N (S t) x := by
  rcases h with h | ⟨v, h1, h3⟩
  · exact Or.inl h
  · exact Or.inr ⟨v, h1, h3, hB.lim ht h1⟩
theorem KWO.y (h2 : wy = 2) (h : ARW N (SHF K ft V fp fe k kp e LV n t) x) : ARW N (KWO K ft V fp fe k kp e LV n t wy) x := by
  have e1 : KWO K ft V fp fe k kp e LV n t wy = SHF K ft V fp fe k kp e LV n t := ifq_t h2
  rw [e1]
  exact h
end KWOS
/-- what knew answers -/
def KNQ (K : Nat → Nat → Int → Prop) (ft : Nat → Int32) (V : Nat → Prop) (fp fe : Nat → Int32) (k kp ke : Nat) (LV : Nat → Nat → LVT) (n : Nat) (x1 x2 x3 r : Int32) : Prop := (¬ (Hs x1 ke ∧ Wi x2 0 7 ∧ Wi x3 0 2) ∧ r = (-1)) ∨ ∃ e t, e < ke ∧ t < 8 ∧ x1 = nI e ∧ x2 = nI t ∧ Wi x3 0 2 ∧ ((KWO K ft V fp fe k kp e (LV e) n t x3 = none ∧ r = (-3)) ∨ ∃ h, KWO K ft V fp fe k kp e (LV e) n t x3 = some h ∧ r.toInt = h + 1000)
theorem Hs.of9 {v k : Nat} (h : v < k) (hk : k < 2 ^ 31) : Hs (nI v) k := ⟨nI_pos (by omega), fun h2 => absurd ((nI_leI hk (by omega)).mp h2) (by omega)⟩
theorem KNQ.uniq {K : Nat → Nat → Int → Prop} {ft : Nat → Int32} {V : Nat → Prop} {fp fe : Nat → Int32} {k kp ke n : Nat} {LV : Nat → Nat → LVT} {x1 x2 x3 r s : Int32} (hke : ke ≤ 10) (h1 : KNQ K ft V fp fe k kp ke LV n x1 x2 x3 r) (h2 : KNQ K ft V fp fe k kp ke LV n x1 x2 x3 s) : r = s := by
  rcases h1 with ⟨a1, b1⟩ | ⟨e, t, he, ht, e1, e2, w1, h1⟩
  · rcases h2 with ⟨a2, b2⟩ | ⟨e, t, he, ht, e1, e2, w1, h2⟩
    · rw [b1, b2]
    · exact absurd ⟨by rw [e1]; exact Hs.of9 he (by omega), by rw [e2]; exact Wi_j (N := 7) rfl (by decide) (by omega), w1⟩ a1
  · rcases h2 with ⟨a2, b2⟩ | ⟨e', t', he', ht', e1', e2', w1', h2⟩
    · exact absurd ⟨by rw [e1]; exact Hs.of9 he (by omega), by rw [e2]; exact Wi_j (N := 7) rfl (by decide) (by omega), w1⟩ a2
    · have q1 : e = e' := (nI_eq (by omega) (by omega)).mp (e1.symm.trans e1')
      have q2 : t = t' := (nI_eq (by omega) (by omega)).mp (e2.symm.trans e2')
      rw [← q1, ← q2] at h2
      rcases h1 with ⟨a1, b1⟩ | ⟨v, a1, b1⟩
      · rcases h2 with ⟨a2, b2⟩ | ⟨w, a2, b2⟩
        · rw [b1, b2]
        · rw [a1] at a2
          cases a2
      · rcases h2 with ⟨a2, b2⟩ | ⟨w, a2, b2⟩
        · rw [a1] at a2
          cases a2
        · rw [a1] at a2
          cases a2
          exact Int32.toInt_inj.mp (b1.trans b2.symm)
theorem KNQ.no {x : Int32} {o : Option Int} (h : ARW 1000000 o x) (e : x = 1000000) : o = none := by
  rcases h with h | ⟨v, h1, h2, h3, h4⟩
  · exact h.1
  · rw [e] at h2
    have e1 : (1000000 : Int32).toInt = 1000000 := by decide
    omega
theorem KNQ.ye {x : Int32} {o : Option Int} (h : ARW 1000000 o x) (e : ¬ x = 1000000) : ∃ v, o = some v ∧ (x + 1000).toInt = v + 1000 := by
  rcases h with h | ⟨v, h1, h2, h3, h4⟩
  · exact absurd h.2 e
  · have e1 : (1000 : Int32).toInt = 1000 := by decide
    exact ⟨v, h1, by rw [ti_ad (by omega) (by omega) (by omega) (by omega), h2, e1]⟩
theorem LNB.le {ln : LNT} (h : LNB ln) : ln.1 ≤ 3 := by
  rcases h with ⟨h, -⟩ | ⟨h, -⟩ | ⟨h, -⟩ | ⟨h, -⟩
  · omega
  · omega
  · omega
  · omega
theorem PIT.sx {LV : Nat → LVT} {n j : Nat} {S : HOP} (e : PSS LV n (PIT LV n j S) = PIT LV n j S) : PSS LV n (PIT LV n (j + 1) S) = PIT LV n (j + 1) S := congrArg (PSS LV n) e
section KLAW
variable {K : Nat → Nat → Int → Prop} {ft gt fp gp fe ge : Nat → Int32} {V U : Nat → Prop} {k kp e t : Nat} {su : Int32}
theorem TCD.cg1 (h : ∀ i, i < 72 → gt i = ft i) (hk : k ≤ 24) (hv : ∀ p, p < 12 → (U p ↔ V p)) (hp : ∀ i, i < 72 → gp i = fp i) (he : ∀ i, i < 20 → ge i = fe i) (hkp : kp ≤ 12) (hee : e < 10) {x : Int} (c : TCD K gt U gp ge k kp e su t x) : TCD K ft V fp fe k kp e su t x := by
  obtain ⟨p, hp9, hb, f, u, hi, hc⟩ := c
  rw [hp _ (by omega)] at hb
  rw [hp _ (by omega), hp _ (by omega), he _ (by omega)] at hi
  exact ⟨p, hp9, hb, f, u, hi.cg h hk (hv p (by omega)), hc⟩
theorem TCD.cg (h : ∀ i, i < 72 → gt i = ft i) (hk : k ≤ 24) (hv : ∀ p, p < 12 → (U p ↔ V p)) (hp : ∀ i, i < 72 → gp i = fp i) (he : ∀ i, i < 20 → ge i = fe i) (hkp : kp ≤ 12) (hee : e < 10) : TCD K gt U gp ge k kp e su t = TCD K ft V fp fe k kp e su t := funext fun _ => propext ⟨TCD.cg1 h hk hv hp he hkp hee, TCD.cg1 (fun i hi => (h i hi).symm) hk (fun p hp9 => (hv p hp9).symm) (fun i hi => (hp i hi).symm) (fun i hi => (he i hi).symm) hkp hee⟩
theorem S0F.cg (h : ∀ i, i < 72 → gt i = ft i) (hk : k ≤ 24) (hv : ∀ p, p < 12 → (U p ↔ V p)) (hp : ∀ i, i < 72 → gp i = fp i) (he : ∀ i, i < 20 → ge i = fe i) (hkp : kp ≤ 12) (hee : e < 10) : S0F K gt U gp ge k kp e = S0F K ft V fp fe k kp e := funext fun t9 => congrArg TOF (TCD.cg h hk hv hp he hkp hee)
theorem FAX.cg (hv : ∀ p, p < 12 → (U p ↔ V p)) (hp : ∀ i, i < 72 → gp i = fp i) (he : ∀ i, i < 20 → ge i = fe i) (hkp : kp ≤ 12) (hee : e < 10) : FAX ge gp U kp e = FAX fe fp V kp e := funext fun j => by
  have a1 : CNT (fun p9 => U p9 ∧ HB (gp (p9 * 6 + 1)) (nI e)) kp = CNT (fun p9 => V p9 ∧ HB (fp (p9 * 6 + 1)) (nI e)) kp := CNT.cg kp (fun p hp9 => by rw [hp _ (by omega), hv p (by omega)])
  have a2 : CNT (fun p9 => U p9 ∧ gp (p9 * 6 + 0) = nI e) kp = CNT (fun p9 => V p9 ∧ fp (p9 * 6 + 0) = nI e) kp := CNT.cg kp (fun p hp9 => by rw [hp _ (by omega), hv p (by omega)])
  unfold FAX
  rw [a1, a2, he (e * 2 + 0) (by omega), he (e * 2 + 1) (by omega)]
theorem KWO.cg (h : ∀ i, i < 72 → gt i = ft i) (hk : k ≤ 24) (hv : ∀ p, p < 12 → (U p ↔ V p)) (hp : ∀ i, i < 72 → gp i = fp i) (he : ∀ i, i < 20 → ge i = fe i) (hkp : kp ≤ 12) (hee : e < 10) {LV : Nat → LVT} {n : Nat} {wy : Int32} : KWO K gt U gp ge k kp e LV n t wy = KWO K ft V fp fe k kp e LV n t wy := by
  unfold KWO SHF
  rw [S0F.cg h hk hv hp he hkp hee, TCD.cg h hk hv hp he hkp hee]
end KLAW
theorem KNQ.law {K L : Nat → Nat → Int → Prop} {ft gt fp gp fe ge : Nat → Int32} {V U : Nat → Prop} {td vd : Int32} {y : Nat → Int32} {VL : Nat → List LNT} {VC : Nat → Nat → List Int32} {DY : Nat → Int32} {kv k kp ke : Nat} {x1 x2 x3 r s : Int32}
    (h1 : KNQ K ft V fp fe k kp ke (fun e9 => LVF (LNF (RLO DY (DAYV td vd) kv) VL) (TRF (RLO DY (DAYV td vd) kv) VC (FAX fe fp V kp e9))) (LVN (RLO DY (DAYV td vd) kv) VL) x1 x2 x3 r)
    (h2 : KNQ L gt U gp ge k kp ke (fun e9 => LVF (LNF (RLO DY (DAYV (y 0) (y 1)) kv) VL) (TRF (RLO DY (DAYV (y 0) (y 1)) kv) VC (FAX ge gp U kp e9))) (LVN (RLO DY (DAYV (y 0) (y 1)) kv) VL) x1 x2 x3 s)
    (e : K = L) (h : ∀ i, i < 72 → gt i = ft i) (hk : k ≤ 24) (hv : ∀ p, p < 12 → (U p ↔ V p)) (hp : ∀ i, i < 72 → gp i = fp i) (he : ∀ i, i < 20 → ge i = fe i) (hkp : kp ≤ 12) (hke : ke ≤ 10) (e0 : y 0 = td) (e1 : y 1 = vd) : r = s := by
  subst e
  rw [e0, e1] at h2
  refine KNQ.uniq hke h1 ?_
  rcases h2 with h2 | ⟨a, t, ha, ht, q1, q2, q3, h2⟩
  · exact Or.inl h2
  · refine Or.inr ⟨a, t, ha, ht, q1, q2, q3, ?_⟩
    have h3 : (KWO K gt U gp ge k kp a (LVF (LNF (RLO DY (DAYV td vd) kv) VL) (TRF (RLO DY (DAYV td vd) kv) VC (FAX ge gp U kp a))) (LVN (RLO DY (DAYV td vd) kv) VL) t x3 = none ∧ s = (-3)) ∨ ∃ h, KWO K gt U gp ge k kp a (LVF (LNF (RLO DY (DAYV td vd) kv) VL) (TRF (RLO DY (DAYV td vd) kv) VC (FAX ge gp U kp a))) (LVN (RLO DY (DAYV td vd) kv) VL) t x3 = some h ∧ s.toInt = h + 1000 := h2
    rw [FAX.cg hv hp he hkp (by omega), KWO.cg h hk hv hp he hkp (by omega)] at h3
    exact h3
section WR
variable {p : Program} {l : Launch} {e : Env} {R : Room} {s : State} {m : MethodId} {args : Array Value} {below : List Frame} {meth : Method} {c : Code} {H : Heap} {locs : List Loc} {cells slots : Nat} {Q : State → Prop}
variable {pc : Nat} {ls : Array Slot} {rest : List Value} {G : GG} {ws : va_W} {A : Nat → Prop} {y0 : MethodName} {b0 : ByteArray} {mL0 : Nat} {rt0 : Option FieldType} {a : Nat} {H0 : Heap}
end WR
/-- a finding stands -/
def STD (K : Nat → Nat → Int → Prop) (ft : Nat → Int32) (V : Nat → Prop) (fp fe : Nat → Int32) (k kp : Nat) (LV : Nat → Nat → LVT) (n : Nat) (ff : Nat → Int32) (s : Nat) : Prop := ∃ h, KWO K ft V fp fe k kp (ff (s * 4 + 0)).toNatClampNeg (LV (ff (s * 4 + 0)).toNatClampNeg) n (ff (s * 4 + 1)).toNatClampNeg (ff (s * 4 + 3)) = some h ∧ h ≤ (ff (s * 4 + 2)).toInt
section STDS
variable {K : Nat → Nat → Int → Prop} {ft gt fp gp fe ge ff gf : Nat → Int32} {V U : Nat → Prop} {k kp ke kf n s je jt : Nat} {LV : Nat → Nat → LVT}
theorem STD.at (e0 : ff (s * 4 + 0) = nI je) (e1 : ff (s * 4 + 1) = nI jt) (hj : je < 10) (ht : jt < 8) : STD K ft V fp fe k kp LV n ff s ↔ ∃ h, KWO K ft V fp fe k kp je (LV je) n jt (ff (s * 4 + 3)) = some h ∧ h ≤ (ff (s * 4 + 2)).toInt := by
  unfold STD
  rw [e0, e1, nI_clamp (by omega), nI_clamp (by omega)]
theorem STD.iff {N x : Int32} (e0 : ff (s * 4 + 0) = nI je) (e1 : ff (s * 4 + 1) = nI jt) (hj : je < 10) (ht : jt < 8) (hh : Wi (ff (s * 4 + 2)) 0 999) (hN : 2000 ≤ N.toInt) (h : ARW N (KWO K ft V fp fe k kp je (LV je) n jt (ff (s * 4 + 3))) x) : x ≤ ff (s * 4 + 2) ↔ STD K ft V fp fe k kp LV n ff s := by
  rw [STD.at e0 e1 hj ht, Int32.le_iff_toInt_le]
  have h2 := (Wi_iff.mp hh).2
  have e9 : (999 : Int32).toInt = 999 := by decide
  rw [e9] at h2
  rcases h with ⟨h1, h3⟩ | ⟨v, h1, h3, -⟩
  · refine ⟨fun h4 => ?_, fun ⟨w, h4, _⟩ => ?_⟩
    · rw [h3] at h4
      omega
    · rw [h1] at h4
      cases h4
  · refine ⟨fun h4 => ⟨v, h1, by rw [← h3]; exact h4⟩, fun ⟨w, h4, h5⟩ => ?_⟩
    rw [h1] at h4
    cases h4
    rw [h3]
    exact h5
end STDS
theorem STD.law {K L : Nat → Nat → Int → Prop} {ft gt fp gp fe ge ff gf : Nat → Int32} {V U : Nat → Prop} {td vd : Int32} {y : Nat → Int32} {VL : Nat → List LNT} {VC : Nat → Nat → List Int32} {DY : Nat → Int32} {kv k kp ke kf : Nat}
    (e : K = L) (h : ∀ i, i < 72 → gt i = ft i) (hk : k ≤ 24) (hv : ∀ p, p < 12 → (U p ↔ V p)) (hp : ∀ i, i < 72 → gp i = fp i) (he : ∀ i, i < 20 → ge i = fe i) (hkp : kp ≤ 12) (hke : ke ≤ 10) (e0 : y 0 = td) (e1 : y 1 = vd) (hF : FNO ff kf ke) (hf : ∀ j, j < 48 → gf j = ff j) (hkf : kf ≤ 12) (s : Nat) (hs : s < kf) :
    STD K ft V fp fe k kp (fun e9 => LVF (LNF (RLO DY (DAYV td vd) kv) VL) (TRF (RLO DY (DAYV td vd) kv) VC (FAX fe fp V kp e9))) (LVN (RLO DY (DAYV td vd) kv) VL) ff s ↔ STD L gt U gp ge k kp (fun e9 => LVF (LNF (RLO DY (DAYV (y 0) (y 1)) kv) VL) (TRF (RLO DY (DAYV (y 0) (y 1)) kv) VC (FAX ge gp U kp e9))) (LVN (RLO DY (DAYV (y 0) (y 1)) kv) VL) gf s := by
  subst e
  rw [e0, e1]
  obtain ⟨je, hje, e2⟩ := Hs_nat (by omega) (hF s hs).1
  obtain ⟨jt, hjt, e3⟩ := Wi7 (hF s hs).2.1
  have a1 := STD.at (K := K) (ft := ft) (V := V) (fp := fp) (fe := fe) (k := k) (kp := kp) (n := LVN (RLO DY (DAYV td vd) kv) VL) (LV := fun e9 => LVF (LNF (RLO DY (DAYV td vd) kv) VL) (TRF (RLO DY (DAYV td vd) kv) VC (FAX fe fp V kp e9))) e2 e3 (by omega) hjt
  have a2 := STD.at (K := K) (ft := gt) (V := U) (fp := gp) (fe := ge) (k := k) (kp := kp) (n := LVN (RLO DY (DAYV td vd) kv) VL) (LV := fun e9 => LVF (LNF (RLO DY (DAYV td vd) kv) VL) (TRF (RLO DY (DAYV td vd) kv) VC (FAX ge gp U kp e9))) ((hf (s * 4 + 0) (by omega)).trans e2) ((hf (s * 4 + 1) (by omega)).trans e3) (by omega) hjt
  have b2 : (∃ h9, KWO K gt U gp ge k kp je (LVF (LNF (RLO DY (DAYV td vd) kv) VL) (TRF (RLO DY (DAYV td vd) kv) VC (FAX ge gp U kp je))) (LVN (RLO DY (DAYV td vd) kv) VL) jt (gf (s * 4 + 3)) = some h9 ∧ h9 ≤ (gf (s * 4 + 2)).toInt) ↔ ∃ h9, KWO K ft V fp fe k kp je (LVF (LNF (RLO DY (DAYV td vd) kv) VL) (TRF (RLO DY (DAYV td vd) kv) VC (FAX fe fp V kp je))) (LVN (RLO DY (DAYV td vd) kv) VL) jt (ff (s * 4 + 3)) = some h9 ∧ h9 ≤ (ff (s * 4 + 2)).toInt := by
    rw [hf (s * 4 + 2) (by omega), hf (s * 4 + 3) (by omega), FAX.cg hv hp he hkp (by omega), KWO.cg h hk hv hp he hkp (by omega)]
  exact a1.trans (b2.symm.trans a2.symm)
/-- how many, by what is asked -/
def MNY (l : List Int32) (x r : Int32) : Prop := (∃ w, w < 15 ∧ x = nI w ∧ r = l.getD w 0) ∨ ((∀ w, w < 15 → ¬ x = nI w) ∧ r = -1)
theorem MNY.out {x : Int32} (h0 : ¬ x = 0) (h1 : ¬ x = 1) (h2 : ¬ x = 2) (h3 : ¬ x = 3) (h4 : ¬ x = 4) (h5 : ¬ x = 5) (h6 : ¬ x = 6) (h7 : ¬ x = 7) (h8 : ¬ x = 8) (h9 : ¬ x = 9) (h10 : ¬ x = 10) (h11 : ¬ x = 11) (h12 : ¬ x = 12) (h13 : ¬ x = 13) (h14 : ¬ x = 14) : ∀ w, w < 15 → ¬ x = nI w := fun w hw => by
  rcases (show w = 0 ∨ w = 1 ∨ w = 2 ∨ w = 3 ∨ w = 4 ∨ w = 5 ∨ w = 6 ∨ w = 7 ∨ w = 8 ∨ w = 9 ∨ w = 10 ∨ w = 11 ∨ w = 12 ∨ w = 13 ∨ w = 14 by omega) with rfl | rfl | rfl | rfl | rfl | rfl | rfl | rfl | rfl | rfl | rfl | rfl | rfl | rfl | rfl
  · exact h0
  · exact h1
  · exact h2
  · exact h3
  · exact h4
  · exact h5
  · exact h6
  · exact h7
  · exact h8
  · exact h9
  · exact h10
  · exact h11
  · exact h12
  · exact h13
  · exact h14
theorem MNY.uq {l m : List Int32} {x r s : Int32} (h1 : MNY l x r) (h2 : MNY m x s) (h : l = m) : r = s := by
  subst h
  rcases h1 with ⟨w, hw, e, e1⟩ | ⟨n, e1⟩
  · rcases h2 with ⟨v, hv, f, e2⟩ | ⟨n, e2⟩
    · have q : w = v := (nI_eq (by omega) (by omega)).mp (e.symm.trans f)
      rw [e1, e2, q]
    · exact absurd e (n w hw)
  · rcases h2 with ⟨v, hv, f, e2⟩ | ⟨_, e2⟩
    · exact absurd f (n v hv)
    · rw [e1, e2]
theorem MNY.all {a0 a1 a2 a3 a4 a5 a6 a7 a8 a9 a10 a11 a12 a13 a14 b0 b1 b2 b3 b4 b5 b6 b7 b8 b9 b10 b11 b12 b13 b14 : Int32} (h0 : a0 = b0) (h1 : a1 = b1) (h2 : a2 = b2) (h3 : a3 = b3) (h4 : a4 = b4) (h5 : a5 = b5) (h6 : a6 = b6) (h7 : a7 = b7) (h8 : a8 = b8) (h9 : a9 = b9) (h10 : a10 = b10) (h11 : a11 = b11) (h12 : a12 = b12) (h13 : a13 = b13) (h14 : a14 = b14) : [a0, a1, a2, a3, a4, a5, a6, a7, a8, a9, a10, a11, a12, a13, a14] = [b0, b1, b2, b3, b4, b5, b6, b7, b8, b9, b10, b11, b12, b13, b14] := by
  rw [h0, h1, h2, h3, h4, h5, h6, h7, h8, h9, h10, h11, h12, h13, h14]
section WR
variable {p : Program} {l : Launch} {e : Env} {R : Room} {s : State} {m : MethodId} {args : Array Value} {below : List Frame} {meth : Method} {c : Code} {H : Heap} {locs : List Loc} {cells slots : Nat} {Q : State → Prop}
variable {pc : Nat} {ls : Array Slot} {rest : List Value} {G : GG} {ws : va_W} {A : Nat → Prop} {y0 : MethodName} {b0 : ByteArray} {mL0 : Nat} {rt0 : Option FieldType} {a : Nat} {H0 : Heap}
theorem gX11_many_0 : (decode cX11_many 0 = .ok (.iload_n 1, 1)) ∧ (decode cX11_many 1 = .ok (.tableswitch 236 0 14 #[75, 83, 94, 105, 116, 127, 138, 149, 164, 175, 187, 198, 209, 220, 228], 75)) ∧ (decode cX11_many 76 = .ok (.aload_n 0, 1)) ∧ (decode cX11_many 77 = .ok (.getfield 15, 3)) ∧ (decode cX11_many 80 = .ok (.getfield 87, 3)) ∧ (decode cX11_many 83 = .ok (.ireturn, 1)) ∧ (decode cX11_many 84 = .ok (.aload_n 0, 1)) ∧ (decode cX11_many 85 = .ok (.getfield 15, 3)) ∧ (decode cX11_many 88 = .ok (.getfield 107, 3)) ∧ (decode cX11_many 91 = .ok (.invokevirtual 174, 3)) := by decide +kernel
theorem gX11_many_1 : (decode cX11_many 94 = .ok (.ireturn, 1)) ∧ (decode cX11_many 95 = .ok (.aload_n 0, 1)) ∧ (decode cX11_many 96 = .ok (.getfield 15, 3)) ∧ (decode cX11_many 99 = .ok (.getfield 144, 3)) ∧ (decode cX11_many 102 = .ok (.invokevirtual 174, 3)) ∧ (decode cX11_many 105 = .ok (.ireturn, 1)) ∧ (decode cX11_many 106 = .ok (.aload_n 0, 1)) ∧ (decode cX11_many 107 = .ok (.getfield 15, 3)) ∧ (decode cX11_many 110 = .ok (.invokevirtual 97, 3)) ∧ (decode cX11_many 113 = .ok (.invokestatic 101, 3)) := by decide +kernel
theorem gX11_many_2 : (decode cX11_many 116 = .ok (.ireturn, 1)) ∧ (decode cX11_many 117 = .ok (.aload_n 0, 1)) ∧ (decode cX11_many 118 = .ok (.getfield 15, 3)) ∧ (decode cX11_many 121 = .ok (.getfield 157, 3)) ∧ (decode cX11_many 124 = .ok (.invokevirtual 174, 3)) ∧ (decode cX11_many 127 = .ok (.ireturn, 1)) ∧ (decode cX11_many 128 = .ok (.aload_n 0, 1)) ∧ (decode cX11_many 129 = .ok (.getfield 15, 3)) ∧ (decode cX11_many 132 = .ok (.getfield 233, 3)) ∧ (decode cX11_many 135 = .ok (.invokevirtual 174, 3)) := by decide +kernel
theorem gX11_many_3 : (decode cX11_many 138 = .ok (.ireturn, 1)) ∧ (decode cX11_many 139 = .ok (.aload_n 0, 1)) ∧ (decode cX11_many 140 = .ok (.getfield 15, 3)) ∧ (decode cX11_many 143 = .ok (.getfield 256, 3)) ∧ (decode cX11_many 146 = .ok (.invokevirtual 174, 3)) ∧ (decode cX11_many 149 = .ok (.ireturn, 1)) ∧ (decode cX11_many 150 = .ok (.aload_n 0, 1)) ∧ (decode cX11_many 151 = .ok (.getfield 15, 3)) ∧ (decode cX11_many 154 = .ok (.aload_n 0, 1)) ∧ (decode cX11_many 155 = .ok (.getfield 15, 3)) := by decide +kernel
theorem gX11_many_4 : (decode cX11_many 158 = .ok (.invokevirtual 97, 3)) ∧ (decode cX11_many 161 = .ok (.invokevirtual 355, 3)) ∧ (decode cX11_many 164 = .ok (.ireturn, 1)) ∧ (decode cX11_many 165 = .ok (.aload_n 0, 1)) ∧ (decode cX11_many 166 = .ok (.getfield 15, 3)) ∧ (decode cX11_many 169 = .ok (.getfield 271, 3)) ∧ (decode cX11_many 172 = .ok (.invokevirtual 174, 3)) ∧ (decode cX11_many 175 = .ok (.ireturn, 1)) ∧ (decode cX11_many 176 = .ok (.aload_n 0, 1)) ∧ (decode cX11_many 177 = .ok (.aload_n 0, 1)) := by decide +kernel
theorem m_1002 : Cond.code yX0_countSayings cX0_countSayings 4 (some .int) ∈ BW := iB_BW53 _ (List.mem_of_getElem? (i := 11) rfl)
theorem m_999 : Cond.methodLink RX11 355 yX0_countSayings ∈ BW := iB_BW53 _ (List.mem_of_getElem? (i := 8) rfl)
theorem m_1000 : Cond.instanceMethod yX0_countSayings ∈ BW := iB_BW53 _ (List.mem_of_getElem? (i := 9) rfl)
theorem m_1001 : Cond.selects RX0 yX0_countSayings yX0_countSayings ∈ BW := iB_BW53 _ (List.mem_of_getElem? (i := 10) rfl)
theorem si_X11_355 : SV RX11 RX0 355 yX0_countSayings cX0_countSayings 4 (some .int) 1 := ⟨⟨m_999, m_1000, m_1001, m_103, m_1002⟩, rfl, nK_RX0.1, nK_RX0.2, pd_7⟩
theorem gX11_many_5 : (decode cX11_many 178 = .ok (.getfield 15, 3)) ∧ (decode cX11_many 181 = .ok (.invokevirtual 97, 3)) ∧ (decode cX11_many 184 = .ok (.invokevirtual 358, 3)) ∧ (decode cX11_many 187 = .ok (.ireturn, 1)) ∧ (decode cX11_many 188 = .ok (.aload_n 0, 1)) ∧ (decode cX11_many 189 = .ok (.getfield 15, 3)) ∧ (decode cX11_many 192 = .ok (.getfield 283, 3)) ∧ (decode cX11_many 195 = .ok (.invokevirtual 174, 3)) ∧ (decode cX11_many 198 = .ok (.ireturn, 1)) ∧ (decode cX11_many 199 = .ok (.aload_n 0, 1)) := by decide +kernel
theorem m_1005 : Cond.code yX11_countStanding cX11_countStanding 4 (some .int) ∈ BW := iB_BW53 _ (List.mem_of_getElem? (i := 14) rfl)
theorem m_1003 : Cond.methodLink RX11 358 yX11_countStanding ∈ BW := iB_BW53 _ (List.mem_of_getElem? (i := 12) rfl)
theorem m_1004 : Cond.instanceMethod yX11_countStanding ∈ BW := iB_BW53 _ (List.mem_of_getElem? (i := 13) rfl)
theorem m_47 : Cond.selects RX11 yX11_countStanding yX11_countStanding ∈ BW := iB_BW2 _ (List.mem_of_getElem? (i := 7) rfl)
theorem si_X11_358 : SV RX11 RX11 358 yX11_countStanding cX11_countStanding 4 (some .int) 1 := ⟨⟨m_1003, m_1004, m_47, m_102, m_1005⟩, rfl, nK_RX11.1, nK_RX11.2, pd_7⟩
theorem gX11_many_6 : (decode cX11_many 200 = .ok (.getfield 15, 3)) ∧ (decode cX11_many 203 = .ok (.getfield 286, 3)) ∧ (decode cX11_many 206 = .ok (.invokevirtual 174, 3)) ∧ (decode cX11_many 209 = .ok (.ireturn, 1)) ∧ (decode cX11_many 210 = .ok (.aload_n 0, 1)) ∧ (decode cX11_many 211 = .ok (.getfield 65, 3)) ∧ (decode cX11_many 214 = .ok (.getfield 292, 3)) ∧ (decode cX11_many 217 = .ok (.invokevirtual 174, 3)) ∧ (decode cX11_many 220 = .ok (.ireturn, 1)) ∧ (decode cX11_many 221 = .ok (.aload_n 0, 1)) := by decide +kernel
theorem gX11_many_7 : (decode cX11_many 222 = .ok (.getfield 58, 3)) ∧ (decode cX11_many 225 = .ok (.invokevirtual 224, 3)) ∧ (decode cX11_many 228 = .ok (.ireturn, 1)) ∧ (decode cX11_many 229 = .ok (.aload_n 0, 1)) ∧ (decode cX11_many 230 = .ok (.getfield 79, 3)) ∧ (decode cX11_many 233 = .ok (.invokevirtual 349, 3)) ∧ (decode cX11_many 236 = .ok (.ireturn, 1)) ∧ (decode cX11_many 237 = .ok (.iconst (-1), 1)) ∧ (decode cX11_many 238 = .ok (.ireturn, 1)) := by decide +kernel
theorem sw_0_14 {x : Int32} : ¬ x = 0 → ¬ x = 1 → ¬ x = 2 → ¬ x = 3 → ¬ x = 4 → ¬ x = 5 → ¬ x = 6 → ¬ x = 7 → ¬ x = 8 → ¬ x = 9 → ¬ x = 10 → ¬ x = 11 → ¬ x = 12 → ¬ x = 13 → ¬ x = 14 →  (x.toInt < 0 ∨ 14 < x.toInt) := by
  intros
  simp only [← Int32.toInt_inj] at *
  have hk : ∀ k : Int, x.toInt = k → x.toInt = k := fun _ h => h
  have k0 : (0 : Int32).toInt = 0 := by decide
  have k1 : (1 : Int32).toInt = 1 := by decide
  have k2 : (2 : Int32).toInt = 2 := by decide
  have k3 : (3 : Int32).toInt = 3 := by decide
  have k4 : (4 : Int32).toInt = 4 := by decide
  have k5 : (5 : Int32).toInt = 5 := by decide
  have k6 : (6 : Int32).toInt = 6 := by decide
  have k7 : (7 : Int32).toInt = 7 := by decide
  have k8 : (8 : Int32).toInt = 8 := by decide
  have k9 : (9 : Int32).toInt = 9 := by decide
  have k10 : (10 : Int32).toInt = 10 := by decide
  have k11 : (11 : Int32).toInt = 11 := by decide
  have k12 : (12 : Int32).toInt = 12 := by decide
  have k13 : (13 : Int32).toInt = 13 := by decide
  have k14 : (14 : Int32).toInt = 14 := by decide
  omega
end WR
theorem rm_10_1_1 {mc ms : Nat} : 1 + 1 ≤ (RM 10 mc ms).frames ∧ 8 + (1 + 11) + 40 * 1 ≤ (RM 10 mc ms).locals := ⟨by show 1 + 1 ≤ 10; decide, by show 8 + (1 + 11) + 40 * 1 ≤ 40 * 10; decide⟩
theorem rm_10_3_6 {mc ms : Nat} : 3 + 1 ≤ (RM 10 mc ms).frames ∧ 8 + (6 + 11) + 40 * 3 ≤ (RM 10 mc ms).locals := ⟨by show 3 + 1 ≤ 10; decide, by show 8 + (6 + 11) + 40 * 3 ≤ 40 * 10; decide⟩
theorem sm_24 {a0 a1 a2 a3 a4 a5 a6 a7 a8 a9 a10 a11 a12 a13 a14 a15 a16 a17 a18 a19 a20 a21 a22 a23 a24 : Nat × va_E} {l : va_W} : ([24] : List Nat).map (fun i => (a0 :: a1 :: a2 :: a3 :: a4 :: a5 :: a6 :: a7 :: a8 :: a9 :: a10 :: a11 :: a12 :: a13 :: a14 :: a15 :: a16 :: a17 :: a18 :: a19 :: a20 :: a21 :: a22 :: a23 :: a24 :: l : va_W)[i]?) = ([a24] : va_W).map some := rfl
theorem fm_24 {a0 a1 a2 a3 a4 a5 a6 a7 a8 a9 a10 a11 a12 a13 a14 a15 a16 a17 a18 a19 a20 a21 a22 a23 a24 : Nat × va_E} {l : va_W} : ([24] : List Nat).filterMap (fun i => (a0 :: a1 :: a2 :: a3 :: a4 :: a5 :: a6 :: a7 :: a8 :: a9 :: a10 :: a11 :: a12 :: a13 :: a14 :: a15 :: a16 :: a17 :: a18 :: a19 :: a20 :: a21 :: a22 :: a23 :: a24 :: l : va_W)[i]?) = ([a24] : va_W) := rfl
theorem nd_24 : va_nd [24] = true := by decide
theorem sm_28 {a0 a1 a2 a3 a4 a5 a6 a7 a8 a9 a10 a11 a12 a13 a14 a15 a16 a17 a18 a19 a20 a21 a22 a23 a24 a25 a26 a27 a28 : Nat × va_E} {l : va_W} : ([28] : List Nat).map (fun i => (a0 :: a1 :: a2 :: a3 :: a4 :: a5 :: a6 :: a7 :: a8 :: a9 :: a10 :: a11 :: a12 :: a13 :: a14 :: a15 :: a16 :: a17 :: a18 :: a19 :: a20 :: a21 :: a22 :: a23 :: a24 :: a25 :: a26 :: a27 :: a28 :: l : va_W)[i]?) = ([a28] : va_W).map some := rfl
theorem fm_28 {a0 a1 a2 a3 a4 a5 a6 a7 a8 a9 a10 a11 a12 a13 a14 a15 a16 a17 a18 a19 a20 a21 a22 a23 a24 a25 a26 a27 a28 : Nat × va_E} {l : va_W} : ([28] : List Nat).filterMap (fun i => (a0 :: a1 :: a2 :: a3 :: a4 :: a5 :: a6 :: a7 :: a8 :: a9 :: a10 :: a11 :: a12 :: a13 :: a14 :: a15 :: a16 :: a17 :: a18 :: a19 :: a20 :: a21 :: a22 :: a23 :: a24 :: a25 :: a26 :: a27 :: a28 :: l : va_W)[i]?) = ([a28] : va_W) := rfl
theorem nd_28 : va_nd [28] = true := by decide
theorem rm_10_4_4 {mc ms : Nat} : 4 + 1 ≤ (RM 10 mc ms).frames ∧ 8 + (4 + 11) + 40 * 4 ≤ (RM 10 mc ms).locals := ⟨by show 4 + 1 ≤ 10; decide, by show 8 + (4 + 11) + 40 * 4 ≤ 40 * 10; decide⟩
theorem sm_13_28_29_18_19 {a0 a1 a2 a3 a4 a5 a6 a7 a8 a9 a10 a11 a12 a13 a14 a15 a16 a17 a18 a19 a20 a21 a22 a23 a24 a25 a26 a27 a28 a29 : Nat × va_E} {l : va_W} : ([13, 28, 29, 18, 19] : List Nat).map (fun i => (a0 :: a1 :: a2 :: a3 :: a4 :: a5 :: a6 :: a7 :: a8 :: a9 :: a10 :: a11 :: a12 :: a13 :: a14 :: a15 :: a16 :: a17 :: a18 :: a19 :: a20 :: a21 :: a22 :: a23 :: a24 :: a25 :: a26 :: a27 :: a28 :: a29 :: l : va_W)[i]?) = ([a13, a28, a29, a18, a19] : va_W).map some := rfl
theorem fm_13_28_29_18_19 {a0 a1 a2 a3 a4 a5 a6 a7 a8 a9 a10 a11 a12 a13 a14 a15 a16 a17 a18 a19 a20 a21 a22 a23 a24 a25 a26 a27 a28 a29 : Nat × va_E} {l : va_W} : ([13, 28, 29, 18, 19] : List Nat).filterMap (fun i => (a0 :: a1 :: a2 :: a3 :: a4 :: a5 :: a6 :: a7 :: a8 :: a9 :: a10 :: a11 :: a12 :: a13 :: a14 :: a15 :: a16 :: a17 :: a18 :: a19 :: a20 :: a21 :: a22 :: a23 :: a24 :: a25 :: a26 :: a27 :: a28 :: a29 :: l : va_W)[i]?) = ([a13, a28, a29, a18, a19] : va_W) := rfl
theorem nd_13_28_29_18_19 : va_nd [13, 28, 29, 18, 19] = true := by decide
theorem rm_10_8_4 {mc ms : Nat} : 8 + 1 ≤ (RM 10 mc ms).frames ∧ 8 + (4 + 11) + 40 * 8 ≤ (RM 10 mc ms).locals := ⟨by show 8 + 1 ≤ 10; decide, by show 8 + (4 + 11) + 40 * 8 ≤ 40 * 10; decide⟩
theorem sm_28_29_30_31_32_33_34_35 {a0 a1 a2 a3 a4 a5 a6 a7 a8 a9 a10 a11 a12 a13 a14 a15 a16 a17 a18 a19 a20 a21 a22 a23 a24 a25 a26 a27 a28 a29 a30 a31 a32 a33 a34 a35 : Nat × va_E} {l : va_W} : ([28, 29, 30, 31, 32, 33, 34, 35] : List Nat).map (fun i => (a0 :: a1 :: a2 :: a3 :: a4 :: a5 :: a6 :: a7 :: a8 :: a9 :: a10 :: a11 :: a12 :: a13 :: a14 :: a15 :: a16 :: a17 :: a18 :: a19 :: a20 :: a21 :: a22 :: a23 :: a24 :: a25 :: a26 :: a27 :: a28 :: a29 :: a30 :: a31 :: a32 :: a33 :: a34 :: a35 :: l : va_W)[i]?) = ([a28, a29, a30, a31, a32, a33, a34, a35] : va_W).map some := rfl
theorem nd_28_29_30_31_32_33_34_35 : va_nd [28, 29, 30, 31, 32, 33, 34, 35] = true := by decide
theorem dj_0_1_2_3_4_5_6_7_8_9_10_11_12_13_14_15_16_17_18_19_20_21_22_23_24_25_26_27__28_29_30_31_32_33_34_35 : ∀ i ∈ ([28, 29, 30, 31, 32, 33, 34, 35] : List Nat), i ∉ ([0, 1, 2, 3, 4, 5, 6, 7, 8, 9, 10, 11, 12, 13, 14, 15, 16, 17, 18, 19, 20, 21, 22, 23, 24, 25, 26, 27] : List Nat) := by decide
theorem sm_30 {a0 a1 a2 a3 a4 a5 a6 a7 a8 a9 a10 a11 a12 a13 a14 a15 a16 a17 a18 a19 a20 a21 a22 a23 a24 a25 a26 a27 a28 a29 a30 : Nat × va_E} {l : va_W} : ([30] : List Nat).map (fun i => (a0 :: a1 :: a2 :: a3 :: a4 :: a5 :: a6 :: a7 :: a8 :: a9 :: a10 :: a11 :: a12 :: a13 :: a14 :: a15 :: a16 :: a17 :: a18 :: a19 :: a20 :: a21 :: a22 :: a23 :: a24 :: a25 :: a26 :: a27 :: a28 :: a29 :: a30 :: l : va_W)[i]?) = ([a30] : va_W).map some := rfl
theorem fm_30 {a0 a1 a2 a3 a4 a5 a6 a7 a8 a9 a10 a11 a12 a13 a14 a15 a16 a17 a18 a19 a20 a21 a22 a23 a24 a25 a26 a27 a28 a29 a30 : Nat × va_E} {l : va_W} : ([30] : List Nat).filterMap (fun i => (a0 :: a1 :: a2 :: a3 :: a4 :: a5 :: a6 :: a7 :: a8 :: a9 :: a10 :: a11 :: a12 :: a13 :: a14 :: a15 :: a16 :: a17 :: a18 :: a19 :: a20 :: a21 :: a22 :: a23 :: a24 :: a25 :: a26 :: a27 :: a28 :: a29 :: a30 :: l : va_W)[i]?) = ([a30] : va_W) := rfl
theorem nd_30 : va_nd [30] = true := by decide
theorem sm_33 {a0 a1 a2 a3 a4 a5 a6 a7 a8 a9 a10 a11 a12 a13 a14 a15 a16 a17 a18 a19 a20 a21 a22 a23 a24 a25 a26 a27 a28 a29 a30 a31 a32 a33 : Nat × va_E} {l : va_W} : ([33] : List Nat).map (fun i => (a0 :: a1 :: a2 :: a3 :: a4 :: a5 :: a6 :: a7 :: a8 :: a9 :: a10 :: a11 :: a12 :: a13 :: a14 :: a15 :: a16 :: a17 :: a18 :: a19 :: a20 :: a21 :: a22 :: a23 :: a24 :: a25 :: a26 :: a27 :: a28 :: a29 :: a30 :: a31 :: a32 :: a33 :: l : va_W)[i]?) = ([a33] : va_W).map some := rfl
theorem fm_33 {a0 a1 a2 a3 a4 a5 a6 a7 a8 a9 a10 a11 a12 a13 a14 a15 a16 a17 a18 a19 a20 a21 a22 a23 a24 a25 a26 a27 a28 a29 a30 a31 a32 a33 : Nat × va_E} {l : va_W} : ([33] : List Nat).filterMap (fun i => (a0 :: a1 :: a2 :: a3 :: a4 :: a5 :: a6 :: a7 :: a8 :: a9 :: a10 :: a11 :: a12 :: a13 :: a14 :: a15 :: a16 :: a17 :: a18 :: a19 :: a20 :: a21 :: a22 :: a23 :: a24 :: a25 :: a26 :: a27 :: a28 :: a29 :: a30 :: a31 :: a32 :: a33 :: l : va_W)[i]?) = ([a33] : va_W) := rfl
theorem nd_33 : va_nd [33] = true := by decide
theorem sm_34 {a0 a1 a2 a3 a4 a5 a6 a7 a8 a9 a10 a11 a12 a13 a14 a15 a16 a17 a18 a19 a20 a21 a22 a23 a24 a25 a26 a27 a28 a29 a30 a31 a32 a33 a34 : Nat × va_E} {l : va_W} : ([34] : List Nat).map (fun i => (a0 :: a1 :: a2 :: a3 :: a4 :: a5 :: a6 :: a7 :: a8 :: a9 :: a10 :: a11 :: a12 :: a13 :: a14 :: a15 :: a16 :: a17 :: a18 :: a19 :: a20 :: a21 :: a22 :: a23 :: a24 :: a25 :: a26 :: a27 :: a28 :: a29 :: a30 :: a31 :: a32 :: a33 :: a34 :: l : va_W)[i]?) = ([a34] : va_W).map some := rfl
theorem fm_34 {a0 a1 a2 a3 a4 a5 a6 a7 a8 a9 a10 a11 a12 a13 a14 a15 a16 a17 a18 a19 a20 a21 a22 a23 a24 a25 a26 a27 a28 a29 a30 a31 a32 a33 a34 : Nat × va_E} {l : va_W} : ([34] : List Nat).filterMap (fun i => (a0 :: a1 :: a2 :: a3 :: a4 :: a5 :: a6 :: a7 :: a8 :: a9 :: a10 :: a11 :: a12 :: a13 :: a14 :: a15 :: a16 :: a17 :: a18 :: a19 :: a20 :: a21 :: a22 :: a23 :: a24 :: a25 :: a26 :: a27 :: a28 :: a29 :: a30 :: a31 :: a32 :: a33 :: a34 :: l : va_W)[i]?) = ([a34] : va_W) := rfl
theorem nd_34 : va_nd [34] = true := by decide
theorem sm_35 {a0 a1 a2 a3 a4 a5 a6 a7 a8 a9 a10 a11 a12 a13 a14 a15 a16 a17 a18 a19 a20 a21 a22 a23 a24 a25 a26 a27 a28 a29 a30 a31 a32 a33 a34 a35 : Nat × va_E} {l : va_W} : ([35] : List Nat).map (fun i => (a0 :: a1 :: a2 :: a3 :: a4 :: a5 :: a6 :: a7 :: a8 :: a9 :: a10 :: a11 :: a12 :: a13 :: a14 :: a15 :: a16 :: a17 :: a18 :: a19 :: a20 :: a21 :: a22 :: a23 :: a24 :: a25 :: a26 :: a27 :: a28 :: a29 :: a30 :: a31 :: a32 :: a33 :: a34 :: a35 :: l : va_W)[i]?) = ([a35] : va_W).map some := rfl
theorem fm_35 {a0 a1 a2 a3 a4 a5 a6 a7 a8 a9 a10 a11 a12 a13 a14 a15 a16 a17 a18 a19 a20 a21 a22 a23 a24 a25 a26 a27 a28 a29 a30 a31 a32 a33 a34 a35 : Nat × va_E} {l : va_W} : ([35] : List Nat).filterMap (fun i => (a0 :: a1 :: a2 :: a3 :: a4 :: a5 :: a6 :: a7 :: a8 :: a9 :: a10 :: a11 :: a12 :: a13 :: a14 :: a15 :: a16 :: a17 :: a18 :: a19 :: a20 :: a21 :: a22 :: a23 :: a24 :: a25 :: a26 :: a27 :: a28 :: a29 :: a30 :: a31 :: a32 :: a33 :: a34 :: a35 :: l : va_W)[i]?) = ([a35] : va_W) := rfl
theorem nd_35 : va_nd [35] = true := by decide
def K_c_countToP (l : Launch) (G : GG) (h0 : Nat) (je : Nat) (pp : Int32) (bpersons : Nat) (bpapers : Nat) (bstamps : Nat) (bversions : Nat) (blines : Nat) (bsteps : Nat) (bsayings : Nat) (bfindings : Nat) (bwarnings : Nat) (bquestions : Nat) (td : Int32) (vd : Int32) (vl : Int32) (gp : Int32) (bpapersc : Nat) (kbpapers : Nat) (fbpapers : Nat → Int32) : Prop := MP l G yX0_countTo cX0_countTo 5 (some .int) 3 [.ref h0, .int (nI je), .int pp] [(h0, oX0 bpersons bpapers bstamps bversions blines bsteps bsayings bfindings bwarnings bquestions td vd vl gp), (bpapers, oX8 12 6 bpapersc (nI kbpapers)), (bpapersc, iA G 72 fbpapers)] (fun r : Int32 => r = (CNT (fun p9 => HB pp (nI p9) ∧ HB (fbpapers (p9 * 6 + 1)) (nI je)) kbpapers))
set_option maxHeartbeats 4000000 in
set_option maxRecDepth 100000 in
theorem c_countToP (l : Launch) (G : GG) (h0 : Nat) (je : Nat) (pp : Int32) (bpersons : Nat) (bpapers : Nat) (bstamps : Nat) (bversions : Nat) (blines : Nat) (bsteps : Nat) (bsayings : Nat) (bfindings : Nat) (bwarnings : Nat) (bquestions : Nat) (td : Int32) (vd : Int32) (vl : Int32) (gp : Int32) (bpapersc : Nat) (kbpapers : Nat) (fbpapers : Nat → Int32) (hkbpapers : kbpapers ≤ 12) (hje : je < 10) : K_c_countToP l G h0 je pp bpersons bpapers bstamps bversions blines bsteps bsayings bfindings bwarnings bquestions td vd vl gp bpapersc kbpapers fbpapers := by
  refine MP.start (by decide +kernel) (Nat.le_of_ble_eq_true rfl) ?_
  intro p e s m below meth c ls hC hK hP hD hl
  refine absQ (fun Q0 hQ0 => ?_)
  have hl : lv_has ls 5 [(0, .ref h0), (1, .int (nI je)), (2, .int pp)] := hl
  refine Kan8 hC (fun hx hb hr hml hB hown hlocks hnm => ?_)
  refine lv_iconst (v := 0) hx hb gX0_countTo_0.1 (by decide) ?_
  refine lv_istore_n (lv' := [(3, .int 0), (0, .ref h0), (1, .int (nI je)), (2, .int pp)]) hx hb gX0_countTo_0.2.1 rfl hl (by decide) rfl (fun ls hl => ?_)
  refine lv_iconst (v := 0) hx hb gX0_countTo_0.2.2.1 (by decide) ?_
  refine lv_istore (lv' := [(4, .int 0), (3, .int 0), (0, .ref h0), (1, .int (nI je)), (2, .int pp)]) hx hb gX0_countTo_0.2.2.2.1 hl (by decide) rfl (fun ls hl => ?_)
  have keyP : ∀ (nP kP : Nat) (cn : Int32) (ls : Array Slot), kP + nP = kbpapers → (cn = CNT (fun p9 => HB pp (nI p9) ∧ HB (fbpapers (p9 * 6 + 1)) (nI je)) kP) → lv_has ls 5 [(4, .int (nI kP)), (3, .int cn), (0, .ref h0), (1, .int (nI je)), (2, .int pp)] → W p l e (RM 3 0 0) s m ([.ref h0, .int (nI je), .int pp] : List Value).toArray below meth c s.heap [] 0 0 Q0 (F0 m 5 ls []) := by
    intro nP
    induction nP with
    | zero =>
      intro kP cn ls hkP hcn hl
      obtain rfl : kbpapers = kP := by omega
      have hl : lv_has ls 5 [(4, .int (nI kbpapers)), (3, .int cn), (0, .ref h0), (1, .int (nI je)), (2, .int pp)] := hl
      refine lv_iload hx hb gX0_countTo_0.2.2.2.2.1 (lv_at0 hl) ?_
      refine lv_aload_n hx hb gX0_countTo_0.2.2.2.2.2.1 rfl (lv_at2 hl) ?_
      refine gf_X0_20 hC rfl hK hP 0 rfl rfl gX0_countTo_0.2.2.2.2.2.2.1 ?_
      refine pV hC hK hl hP hD (c_T_count l G bpapers 12 6 bpapersc kbpapers) si_X0_68 [1] sm_1 fm_1 nd_1 rfl rfl rfl rfl rfl (Nat.le_of_ble_eq_true rfl) rm_3_1_1 ⟨by first | exact Nat.le_of_ble_eq_true rfl | exact Nat.zero_le _, by first | exact Nat.le_of_ble_eq_true rfl | exact Nat.zero_le _⟩ gX0_countTo_0.2.2.2.2.2.2.2.1 (Keqr ?_)
      refine lv_icmp_ge (tgt := 52) hx hb gX0_countTo_0.2.2.2.2.2.2.2.2.1 (by decide) (fun _ => ?_) (fun c9 => absurd (Int32.le_refl _) c9)
      refine lv_iload_n hx hb gX0_countTo_2.2.2.2.2.1 rfl (lv_at1 hl) ?_
      refine toQ hQ0 ?_
      exact RP (v := cn) hC (hcn) rfl gX0_countTo_2.2.2.2.2.2
    | succ nP ihP =>
      intro kP cn ls hkP hcn hl
      refine lv_iload hx hb gX0_countTo_0.2.2.2.2.1 (lv_at0 hl) ?_
      refine lv_aload_n hx hb gX0_countTo_0.2.2.2.2.2.1 rfl (lv_at2 hl) ?_
      refine gf_X0_20 hC rfl hK hP 0 rfl rfl gX0_countTo_0.2.2.2.2.2.2.1 ?_
      refine pV hC hK hl hP hD (c_T_count l G bpapers 12 6 bpapersc kbpapers) si_X0_68 [1] sm_1 fm_1 nd_1 rfl rfl rfl rfl rfl (Nat.le_of_ble_eq_true rfl) rm_3_1_1 ⟨by first | exact Nat.le_of_ble_eq_true rfl | exact Nat.zero_le _, by first | exact Nat.le_of_ble_eq_true rfl | exact Nat.zero_le _⟩ gX0_countTo_0.2.2.2.2.2.2.2.1 (Keqr ?_)
      refine lv_icmp_ge (tgt := 52) hx hb gX0_countTo_0.2.2.2.2.2.2.2.2.1 (by decide) (fun c9 => absurd c9 (nI_ge (a := kP) (b := kbpapers) (by omega) (by omega))) (fun _ => ?_)
      refine lv_iload_n hx hb gX0_countTo_0.2.2.2.2.2.2.2.2.2 rfl (lv_at4 hl) ?_
      refine lv_iload hx hb gX0_countTo_1.1 (lv_at0 hl) ?_
      refine pSN hC hK hl (c_hasBit l G pp (nI kP)) si_X0_75 rfl rfl (Nat.le_of_ble_eq_true rfl) rm_3_1_2 ⟨by first | exact Nat.le_of_ble_eq_true rfl | exact Nat.zero_le _, by first | exact Nat.le_of_ble_eq_true rfl | exact Nat.zero_le _⟩ gX0_countTo_1.2.1 (Kors (Keqa fun a3886 => ?_) (Keqa fun a3886 => ?_))
      · refine lv_if_eq (tgt := 46) hx hb gX0_countTo_1.2.2.1 (by decide) (fun c9 => absurd c9 (by decide)) (fun _ => ?_)
        refine lv_aload_n hx hb gX0_countTo_1.2.2.2.1 rfl (lv_at2 hl) ?_
        refine gf_X0_20 hC rfl hK hP 0 rfl rfl gX0_countTo_1.2.2.2.2.1 ?_
        refine lv_iload hx hb gX0_countTo_1.2.2.2.2.2.1 (lv_at0 hl) ?_
        refine lv_iconst (v := 1) hx hb gX0_countTo_1.2.2.2.2.2.2.1 (by decide) ?_
        refine pV hC hK hl hP hD (c_T_at l G bpapers (nI kP) 1 12 6 bpapersc kbpapers fbpapers (hkbpapers) (by omega) (by omega)) si_X0_71 [1, 2] sm_1_2 fm_1_2 nd_1_2 rfl rfl rfl rfl rfl (Nat.le_of_ble_eq_true rfl) rm_3_1_3 ⟨by first | exact Nat.le_of_ble_eq_true rfl | exact Nat.zero_le _, by first | exact Nat.le_of_ble_eq_true rfl | exact Nat.zero_le _⟩ gX0_countTo_1.2.2.2.2.2.2.2.1 (fun r3887 hr3887 => ?_)
        refine eqi (x1 := fbpapers (kP * 6 + 1)) (hr3887.trans (tatq (by omega) (by omega) (by decide) (by decide) rfl)) ?_
        refine lv_iload_n hx hb gX0_countTo_1.2.2.2.2.2.2.2.2.1 rfl (lv_at3 hl) ?_
        refine pSN hC hK hl (c_hasBit l G (fbpapers (kP * 6 + 1)) (nI je)) si_X0_75 rfl rfl (Nat.le_of_ble_eq_true rfl) rm_3_1_2 ⟨by first | exact Nat.le_of_ble_eq_true rfl | exact Nat.zero_le _, by first | exact Nat.le_of_ble_eq_true rfl | exact Nat.zero_le _⟩ gX0_countTo_1.2.2.2.2.2.2.2.2.2 (Kors (Keqa fun a3890 => ?_) (Keqa fun a3890 => ?_))
        · refine lv_if_eq (tgt := 46) hx hb gX0_countTo_2.1 (by decide) (fun c9 => absurd c9 (by decide)) (fun _ => ?_)
          refine lv_iinc (v := cn + 1) (lv' := [(3, .int (cn + 1)), (4, .int (nI kP)), (0, .ref h0), (1, .int (nI je)), (2, .int pp)]) hx hb gX0_countTo_2.2.1 hl (k := 1) rfl (rfl) (by decide) rfl (fun ls hl => ?_)
          refine lv_iinc (v := nI (kP + 1)) (lv' := [(4, .int (nI (kP + 1))), (3, .int (cn + 1)), (0, .ref h0), (1, .int (nI je)), (2, .int pp)]) hx hb gX0_countTo_2.2.2.1 hl (k := 1) rfl (nI_1 _) (by decide) rfl (fun ls hl => ?_)
          refine lv_goto (tgt := 5) hx hb gX0_countTo_2.2.2.2.1 (by decide) ?_
          have hst9 : cn + 1 = CNT (fun p9 => HB pp (nI p9) ∧ HB (fbpapers (p9 * 6 + 1)) (nI je)) (kP + 1) := CNT.y hcn ⟨a3886, a3890⟩
          exact ihP (kP + 1) (cn + 1) _ (by omega) (by first | assumption | exact Or.inl rfl | exact Or.inr rfl | exact rfl) (lv_sub hl [0, 1, 2, 3, 4] rfl)
        · refine lv_if_eq (tgt := 46) hx hb gX0_countTo_2.1 (by decide) (fun _ => ?_) (fun c9 => absurd (by decide) c9)
          refine lv_iinc (v := nI (kP + 1)) (lv' := [(4, .int (nI (kP + 1))), (3, .int cn), (0, .ref h0), (1, .int (nI je)), (2, .int pp)]) hx hb gX0_countTo_2.2.2.1 hl (k := 0) rfl (nI_1 _) (by decide) rfl (fun ls hl => ?_)
          refine lv_goto (tgt := 5) hx hb gX0_countTo_2.2.2.2.1 (by decide) ?_
          have hst9 : cn = CNT (fun p9 => HB pp (nI p9) ∧ HB (fbpapers (p9 * 6 + 1)) (nI je)) (kP + 1) := CNT.n hcn (fun h9 => a3890 h9.2)
          exact ihP (kP + 1) cn _ (by omega) (by first | assumption | exact Or.inl rfl | exact Or.inr rfl | exact rfl) (lv_sub hl [0, 1, 2, 3, 4] rfl)
      · refine lv_if_eq (tgt := 46) hx hb gX0_countTo_1.2.2.1 (by decide) (fun _ => ?_) (fun c9 => absurd (by decide) c9)
        refine lv_iinc (v := nI (kP + 1)) (lv' := [(4, .int (nI (kP + 1))), (3, .int cn), (0, .ref h0), (1, .int (nI je)), (2, .int pp)]) hx hb gX0_countTo_2.2.2.1 hl (k := 0) rfl (nI_1 _) (by decide) rfl (fun ls hl => ?_)
        refine lv_goto (tgt := 5) hx hb gX0_countTo_2.2.2.2.1 (by decide) ?_
        have hst9 : cn = CNT (fun p9 => HB pp (nI p9) ∧ HB (fbpapers (p9 * 6 + 1)) (nI je)) (kP + 1) := CNT.n hcn (fun h9 => a3886 h9.1)
        exact ihP (kP + 1) cn _ (by omega) (by first | assumption | exact Or.inl rfl | exact Or.inr rfl | exact rfl) (lv_sub hl [0, 1, 2, 3, 4] rfl)
  exact keyP kbpapers 0 0 _ (by omega) (by first | assumption | exact Or.inl rfl | exact Or.inr rfl | exact rfl) (lv_sub hl [0, 1, 2, 3, 4] rfl)
def K_c_countByP (l : Launch) (G : GG) (h0 : Nat) (je : Nat) (pp : Int32) (bpersons : Nat) (bpapers : Nat) (bstamps : Nat) (bversions : Nat) (blines : Nat) (bsteps : Nat) (bsayings : Nat) (bfindings : Nat) (bwarnings : Nat) (bquestions : Nat) (td : Int32) (vd : Int32) (vl : Int32) (gp : Int32) (bpapersc : Nat) (kbpapers : Nat) (fbpapers : Nat → Int32) : Prop := MP l G yX0_countBy cX0_countBy 5 (some .int) 3 [.ref h0, .int (nI je), .int pp] [(h0, oX0 bpersons bpapers bstamps bversions blines bsteps bsayings bfindings bwarnings bquestions td vd vl gp), (bpapers, oX8 12 6 bpapersc (nI kbpapers)), (bpapersc, iA G 72 fbpapers)] (fun r : Int32 => r = (CNT (fun p9 => HB pp (nI p9) ∧ fbpapers (p9 * 6 + 0) = nI je) kbpapers))
set_option maxHeartbeats 4000000 in
set_option maxRecDepth 100000 in
theorem c_countByP (l : Launch) (G : GG) (h0 : Nat) (je : Nat) (pp : Int32) (bpersons : Nat) (bpapers : Nat) (bstamps : Nat) (bversions : Nat) (blines : Nat) (bsteps : Nat) (bsayings : Nat) (bfindings : Nat) (bwarnings : Nat) (bquestions : Nat) (td : Int32) (vd : Int32) (vl : Int32) (gp : Int32) (bpapersc : Nat) (kbpapers : Nat) (fbpapers : Nat → Int32) (hkbpapers : kbpapers ≤ 12) (hje : je < 10) : K_c_countByP l G h0 je pp bpersons bpapers bstamps bversions blines bsteps bsayings bfindings bwarnings bquestions td vd vl gp bpapersc kbpapers fbpapers := by
  refine MP.start (by decide +kernel) (Nat.le_of_ble_eq_true rfl) ?_
  intro p e s m below meth c ls hC hK hP hD hl
  refine absQ (fun Q0 hQ0 => ?_)
  have hl : lv_has ls 5 [(0, .ref h0), (1, .int (nI je)), (2, .int pp)] := hl
  refine Kan8 hC (fun hx hb hr hml hB hown hlocks hnm => ?_)
  refine lv_iconst (v := 0) hx hb gX0_countBy_0.1 (by decide) ?_
  refine lv_istore_n (lv' := [(3, .int 0), (0, .ref h0), (1, .int (nI je)), (2, .int pp)]) hx hb gX0_countBy_0.2.1 rfl hl (by decide) rfl (fun ls hl => ?_)
  refine lv_iconst (v := 0) hx hb gX0_countBy_0.2.2.1 (by decide) ?_
  refine lv_istore (lv' := [(4, .int 0), (3, .int 0), (0, .ref h0), (1, .int (nI je)), (2, .int pp)]) hx hb gX0_countBy_0.2.2.2.1 hl (by decide) rfl (fun ls hl => ?_)
  have keyP : ∀ (nP kP : Nat) (cn : Int32) (ls : Array Slot), kP + nP = kbpapers → (cn = CNT (fun p9 => HB pp (nI p9) ∧ fbpapers (p9 * 6 + 0) = nI je) kP) → lv_has ls 5 [(4, .int (nI kP)), (3, .int cn), (0, .ref h0), (1, .int (nI je)), (2, .int pp)] → W p l e (RM 3 0 0) s m ([.ref h0, .int (nI je), .int pp] : List Value).toArray below meth c s.heap [] 0 0 Q0 (F0 m 5 ls []) := by
    intro nP
    induction nP with
    | zero =>
      intro kP cn ls hkP hcn hl
      obtain rfl : kbpapers = kP := by omega
      have hl : lv_has ls 5 [(4, .int (nI kbpapers)), (3, .int cn), (0, .ref h0), (1, .int (nI je)), (2, .int pp)] := hl
      refine lv_iload hx hb gX0_countBy_0.2.2.2.2.1 (lv_at0 hl) ?_
      refine lv_aload_n hx hb gX0_countBy_0.2.2.2.2.2.1 rfl (lv_at2 hl) ?_
      refine gf_X0_20 hC rfl hK hP 0 rfl rfl gX0_countBy_0.2.2.2.2.2.2.1 ?_
      refine pV hC hK hl hP hD (c_T_count l G bpapers 12 6 bpapersc kbpapers) si_X0_68 [1] sm_1 fm_1 nd_1 rfl rfl rfl rfl rfl (Nat.le_of_ble_eq_true rfl) rm_3_1_1 ⟨by first | exact Nat.le_of_ble_eq_true rfl | exact Nat.zero_le _, by first | exact Nat.le_of_ble_eq_true rfl | exact Nat.zero_le _⟩ gX0_countBy_0.2.2.2.2.2.2.2.1 (Keqr ?_)
      refine lv_icmp_ge (tgt := 49) hx hb gX0_countBy_0.2.2.2.2.2.2.2.2.1 (by decide) (fun _ => ?_) (fun c9 => absurd (Int32.le_refl _) c9)
      refine lv_iload_n hx hb gX0_countBy_2.2.2.2.1 rfl (lv_at1 hl) ?_
      refine toQ hQ0 ?_
      exact RP (v := cn) hC (hcn) rfl gX0_countBy_2.2.2.2.2
    | succ nP ihP =>
      intro kP cn ls hkP hcn hl
      refine lv_iload hx hb gX0_countBy_0.2.2.2.2.1 (lv_at0 hl) ?_
      refine lv_aload_n hx hb gX0_countBy_0.2.2.2.2.2.1 rfl (lv_at2 hl) ?_
      refine gf_X0_20 hC rfl hK hP 0 rfl rfl gX0_countBy_0.2.2.2.2.2.2.1 ?_
      refine pV hC hK hl hP hD (c_T_count l G bpapers 12 6 bpapersc kbpapers) si_X0_68 [1] sm_1 fm_1 nd_1 rfl rfl rfl rfl rfl (Nat.le_of_ble_eq_true rfl) rm_3_1_1 ⟨by first | exact Nat.le_of_ble_eq_true rfl | exact Nat.zero_le _, by first | exact Nat.le_of_ble_eq_true rfl | exact Nat.zero_le _⟩ gX0_countBy_0.2.2.2.2.2.2.2.1 (Keqr ?_)
      refine lv_icmp_ge (tgt := 49) hx hb gX0_countBy_0.2.2.2.2.2.2.2.2.1 (by decide) (fun c9 => absurd c9 (nI_ge (a := kP) (b := kbpapers) (by omega) (by omega))) (fun _ => ?_)
      refine lv_iload_n hx hb gX0_countBy_0.2.2.2.2.2.2.2.2.2 rfl (lv_at4 hl) ?_
      refine lv_iload hx hb gX0_countBy_1.1 (lv_at0 hl) ?_
      refine pSN hC hK hl (c_hasBit l G pp (nI kP)) si_X0_75 rfl rfl (Nat.le_of_ble_eq_true rfl) rm_3_1_2 ⟨by first | exact Nat.le_of_ble_eq_true rfl | exact Nat.zero_le _, by first | exact Nat.le_of_ble_eq_true rfl | exact Nat.zero_le _⟩ gX0_countBy_1.2.1 (Kors (Keqa fun a3896 => ?_) (Keqa fun a3896 => ?_))
      · refine lv_if_eq (tgt := 43) hx hb gX0_countBy_1.2.2.1 (by decide) (fun c9 => absurd c9 (by decide)) (fun _ => ?_)
        refine lv_aload_n hx hb gX0_countBy_1.2.2.2.1 rfl (lv_at2 hl) ?_
        refine gf_X0_20 hC rfl hK hP 0 rfl rfl gX0_countBy_1.2.2.2.2.1 ?_
        refine lv_iload hx hb gX0_countBy_1.2.2.2.2.2.1 (lv_at0 hl) ?_
        refine lv_iconst (v := 0) hx hb gX0_countBy_1.2.2.2.2.2.2.1 (by decide) ?_
        refine pV hC hK hl hP hD (c_T_at l G bpapers (nI kP) 0 12 6 bpapersc kbpapers fbpapers (hkbpapers) (by omega) (by omega)) si_X0_71 [1, 2] sm_1_2 fm_1_2 nd_1_2 rfl rfl rfl rfl rfl (Nat.le_of_ble_eq_true rfl) rm_3_1_3 ⟨by first | exact Nat.le_of_ble_eq_true rfl | exact Nat.zero_le _, by first | exact Nat.le_of_ble_eq_true rfl | exact Nat.zero_le _⟩ gX0_countBy_1.2.2.2.2.2.2.2.1 (fun r3897 hr3897 => ?_)
        refine eqi (x1 := fbpapers (kP * 6 + 0)) (hr3897.trans (tatq (by omega) (by omega) (by decide) (by decide) rfl)) ?_
        refine lv_iload_n hx hb gX0_countBy_1.2.2.2.2.2.2.2.2.1 rfl (lv_at3 hl) ?_
        refine lv_icmp_ne (tgt := 43) hx hb gX0_countBy_1.2.2.2.2.2.2.2.2.2 (by decide) (fun c_37_3899 => ?_) (fun c_37_3899 => ?_)
        · refine lv_iinc (v := nI (kP + 1)) (lv' := [(4, .int (nI (kP + 1))), (3, .int cn), (0, .ref h0), (1, .int (nI je)), (2, .int pp)]) hx hb gX0_countBy_2.2.1 hl (k := 0) rfl (nI_1 _) (by decide) rfl (fun ls hl => ?_)
          refine lv_goto (tgt := 5) hx hb gX0_countBy_2.2.2.1 (by decide) ?_
          have hst9 : cn = CNT (fun p9 => HB pp (nI p9) ∧ fbpapers (p9 * 6 + 0) = nI je) (kP + 1) := CNT.n hcn (fun h9 => c_37_3899 h9.2)
          exact ihP (kP + 1) cn _ (by omega) (by first | assumption | exact Or.inl rfl | exact Or.inr rfl | exact rfl) (lv_sub hl [0, 1, 2, 3, 4] rfl)
        · refine lv_iinc (v := cn + 1) (lv' := [(3, .int (cn + 1)), (4, .int (nI kP)), (0, .ref h0), (1, .int (nI je)), (2, .int pp)]) hx hb gX0_countBy_2.1 hl (k := 1) rfl (rfl) (by decide) rfl (fun ls hl => ?_)
          refine lv_iinc (v := nI (kP + 1)) (lv' := [(4, .int (nI (kP + 1))), (3, .int (cn + 1)), (0, .ref h0), (1, .int (nI je)), (2, .int pp)]) hx hb gX0_countBy_2.2.1 hl (k := 1) rfl (nI_1 _) (by decide) rfl (fun ls hl => ?_)
          refine lv_goto (tgt := 5) hx hb gX0_countBy_2.2.2.1 (by decide) ?_
          have hst9 : cn + 1 = CNT (fun p9 => HB pp (nI p9) ∧ fbpapers (p9 * 6 + 0) = nI je) (kP + 1) := CNT.y hcn ⟨a3896, c_37_3899⟩
          exact ihP (kP + 1) (cn + 1) _ (by omega) (by first | assumption | exact Or.inl rfl | exact Or.inr rfl | exact rfl) (lv_sub hl [0, 1, 2, 3, 4] rfl)
      · refine lv_if_eq (tgt := 43) hx hb gX0_countBy_1.2.2.1 (by decide) (fun _ => ?_) (fun c9 => absurd (by decide) c9)
        refine lv_iinc (v := nI (kP + 1)) (lv' := [(4, .int (nI (kP + 1))), (3, .int cn), (0, .ref h0), (1, .int (nI je)), (2, .int pp)]) hx hb gX0_countBy_2.2.1 hl (k := 0) rfl (nI_1 _) (by decide) rfl (fun ls hl => ?_)
        refine lv_goto (tgt := 5) hx hb gX0_countBy_2.2.2.1 (by decide) ?_
        have hst9 : cn = CNT (fun p9 => HB pp (nI p9) ∧ fbpapers (p9 * 6 + 0) = nI je) (kP + 1) := CNT.n hcn (fun h9 => a3896 h9.1)
        exact ihP (kP + 1) cn _ (by omega) (by first | assumption | exact Or.inl rfl | exact Or.inr rfl | exact rfl) (lv_sub hl [0, 1, 2, 3, 4] rfl)
  exact keyP kbpapers 0 0 _ (by omega) (by first | assumption | exact Or.inl rfl | exact Or.inr rfl | exact rfl) (lv_sub hl [0, 1, 2, 3, 4] rfl)
def K_c_rulingX (l : Launch) (G : GG) (h0 : Nat) (DY : Nat → Int32) (bpersons : Nat) (bpapers : Nat) (bstamps : Nat) (bversions : Nat) (blines : Nat) (bsteps : Nat) (bsayings : Nat) (bfindings : Nat) (bwarnings : Nat) (bquestions : Nat) (td : Int32) (vd : Int32) (vl : Int32) (gp : Int32) (bversionsc : Nat) (kbversions : Nat) (fbversions : Nat → Int32) : Prop := MP l G yX0_ruling cX0_ruling 4 (some .int) 3 [.ref h0] [(h0, oX0 bpersons bpapers bstamps bversions blines bsteps bsayings bfindings bwarnings bquestions td vd vl gp), (bversions, oX8 8 3 bversionsc (nI kbversions)), (bversionsc, iA G 24 fbversions)] (fun r : Int32 => r = (LAT (RLO DY (DAYV td vd) kbversions)))
set_option maxHeartbeats 4000000 in
set_option maxRecDepth 100000 in
theorem c_rulingX (l : Launch) (G : GG) (h0 : Nat) (DY : Nat → Int32) (bpersons : Nat) (bpapers : Nat) (bstamps : Nat) (bversions : Nat) (blines : Nat) (bsteps : Nat) (bsayings : Nat) (bfindings : Nat) (bwarnings : Nat) (bquestions : Nat) (td : Int32) (vd : Int32) (vl : Int32) (gp : Int32) (bversionsc : Nat) (kbversions : Nat) (fbversions : Nat → Int32) (hkbversions : kbversions ≤ 8) (hDY : ∀ v9, v9 < kbversions → fbversions (v9 * 3 + 0) = DY v9) : K_c_rulingX l G h0 DY bpersons bpapers bstamps bversions blines bsteps bsayings bfindings bwarnings bquestions td vd vl gp bversionsc kbversions fbversions := by
  refine MP.start (by decide +kernel) (Nat.le_of_ble_eq_true rfl) ?_
  intro p e s m below meth c ls hC hK hP hD hl
  refine absQ (fun Q0 hQ0 => ?_)
  have hl : lv_has ls 4 [(0, .ref h0)] := hl
  refine Kan8 hC (fun hx hb hr hml hB hown hlocks hnm => ?_)
  refine lv_iconst (v := (-1)) hx hb gX0_ruling_0.1 (by decide) ?_
  refine lv_istore_n (lv' := [(1, .int (-1)), (0, .ref h0)]) hx hb gX0_ruling_0.2.1 rfl hl (by decide) rfl (fun ls hl => ?_)
  refine lv_aload_n hx hb gX0_ruling_0.2.2.1 rfl (lv_at1 hl) ?_
  refine pV hC hK hl hP hD (c_viewedDayX l G h0 bpersons bpapers bstamps bversions blines bsteps bsayings bfindings bwarnings bquestions td vd vl gp) si_X0_64 [0] sm_0 fm_0 nd_0 rfl rfl rfl rfl rfl (Nat.le_of_ble_eq_true rfl) rm_3_1_1 ⟨by first | exact Nat.le_of_ble_eq_true rfl | exact Nat.zero_le _, by first | exact Nat.le_of_ble_eq_true rfl | exact Nat.zero_le _⟩ gX0_ruling_0.2.2.2.1 (Keqr ?_)
  refine lv_istore_n (lv' := [(2, .int (DAYV td vd)), (1, .int (-1)), (0, .ref h0)]) hx hb gX0_ruling_0.2.2.2.2.1 rfl hl (by decide) rfl (fun ls hl => ?_)
  refine lv_iconst (v := 0) hx hb gX0_ruling_0.2.2.2.2.2.1 (by decide) ?_
  refine lv_istore_n (lv' := [(3, .int 0), (2, .int (DAYV td vd)), (1, .int (-1)), (0, .ref h0)]) hx hb gX0_ruling_0.2.2.2.2.2.2.1 rfl hl (by decide) rfl (fun ls hl => ?_)
  have keyP : ∀ (nP kP : Nat) (lv : Int32) (ls : Array Slot), kP + nP = kbversions → (lv = LAT (RLO DY (DAYV td vd) kP)) → lv_has ls 4 [(3, .int (nI kP)), (2, .int (DAYV td vd)), (1, .int lv), (0, .ref h0)] → W p l e (RM 3 0 0) s m ([.ref h0] : List Value).toArray below meth c s.heap [] 0 0 Q0 (F0 m 9 ls []) := by
    intro nP
    induction nP with
    | zero =>
      intro kP lv ls hkP hlv hl
      obtain rfl : kbversions = kP := by omega
      have hl : lv_has ls 4 [(3, .int (nI kbversions)), (2, .int (DAYV td vd)), (1, .int lv), (0, .ref h0)] := hl
      refine lv_iload_n hx hb gX0_ruling_0.2.2.2.2.2.2.2.1 rfl (lv_at0 hl) ?_
      refine lv_aload_n hx hb gX0_ruling_0.2.2.2.2.2.2.2.2.1 rfl (lv_at3 hl) ?_
      refine gf_X0_26 hC rfl hK hP 0 rfl rfl gX0_ruling_0.2.2.2.2.2.2.2.2.2 ?_
      refine pV hC hK hl hP hD (c_T_count l G bversions 8 3 bversionsc kbversions) si_X0_68 [1] sm_1 fm_1 nd_1 rfl rfl rfl rfl rfl (Nat.le_of_ble_eq_true rfl) rm_3_1_1 ⟨by first | exact Nat.le_of_ble_eq_true rfl | exact Nat.zero_le _, by first | exact Nat.le_of_ble_eq_true rfl | exact Nat.zero_le _⟩ gX0_ruling_1.1 (Keqr ?_)
      refine lv_icmp_ge (tgt := 41) hx hb gX0_ruling_1.2.1 (by decide) (fun _ => ?_) (fun c9 => absurd (Int32.le_refl _) c9)
      refine lv_iload_n hx hb gX0_ruling_2.2.2.2.1 rfl (lv_at2 hl) ?_
      refine toQ hQ0 ?_
      exact RP (v := lv) hC (hlv) rfl gX0_ruling_2.2.2.2.2
    | succ nP ihP =>
      intro kP lv ls hkP hlv hl
      refine lv_iload_n hx hb gX0_ruling_0.2.2.2.2.2.2.2.1 rfl (lv_at0 hl) ?_
      refine lv_aload_n hx hb gX0_ruling_0.2.2.2.2.2.2.2.2.1 rfl (lv_at3 hl) ?_
      refine gf_X0_26 hC rfl hK hP 0 rfl rfl gX0_ruling_0.2.2.2.2.2.2.2.2.2 ?_
      refine pV hC hK hl hP hD (c_T_count l G bversions 8 3 bversionsc kbversions) si_X0_68 [1] sm_1 fm_1 nd_1 rfl rfl rfl rfl rfl (Nat.le_of_ble_eq_true rfl) rm_3_1_1 ⟨by first | exact Nat.le_of_ble_eq_true rfl | exact Nat.zero_le _, by first | exact Nat.le_of_ble_eq_true rfl | exact Nat.zero_le _⟩ gX0_ruling_1.1 (Keqr ?_)
      refine lv_icmp_ge (tgt := 41) hx hb gX0_ruling_1.2.1 (by decide) (fun c9 => absurd c9 (nI_ge (a := kP) (b := kbversions) (by omega) (by omega))) (fun _ => ?_)
      refine lv_aload_n hx hb gX0_ruling_1.2.2.1 rfl (lv_at3 hl) ?_
      refine gf_X0_26 hC rfl hK hP 0 rfl rfl gX0_ruling_1.2.2.2.1 ?_
      refine lv_iload_n hx hb gX0_ruling_1.2.2.2.2.1 rfl (lv_at0 hl) ?_
      refine lv_iconst (v := 0) hx hb gX0_ruling_1.2.2.2.2.2.1 (by decide) ?_
      refine pV hC hK hl hP hD (c_T_at l G bversions (nI kP) 0 8 3 bversionsc kbversions fbversions (hkbversions) (by omega) (by omega)) si_X0_71 [1, 2] sm_1_2 fm_1_2 nd_1_2 rfl rfl rfl rfl rfl (Nat.le_of_ble_eq_true rfl) rm_3_1_3 ⟨by first | exact Nat.le_of_ble_eq_true rfl | exact Nat.zero_le _, by first | exact Nat.le_of_ble_eq_true rfl | exact Nat.zero_le _⟩ gX0_ruling_1.2.2.2.2.2.2.1 (fun r3906 hr3906 => ?_)
      refine eqi (x1 := DY kP) ((hr3906.trans (tatq (by omega) (by omega) (by decide) (by decide) rfl)).trans (hDY kP (by omega))) ?_
      refine lv_iload_n hx hb gX0_ruling_1.2.2.2.2.2.2.2.1 rfl (lv_at1 hl) ?_
      refine lv_icmp_gt (tgt := 35) hx hb gX0_ruling_1.2.2.2.2.2.2.2.2.1 (by decide) (fun c_30_3908 => ?_) (fun c_30_3908 => ?_)
      · refine lv_iinc (v := nI (kP + 1)) (lv' := [(3, .int (nI (kP + 1))), (2, .int (DAYV td vd)), (1, .int lv), (0, .ref h0)]) hx hb gX0_ruling_2.2.1 hl (k := 0) rfl (nI_1 _) (by decide) rfl (fun ls hl => ?_)
        refine lv_goto (tgt := 9) hx hb gX0_ruling_2.2.2.1 (by decide) ?_
        have hst9 : lv = LAT (RLO DY (DAYV td vd) (kP + 1)) := hlv.trans (congrArg LAT (LTS.n (fun h9 => Int32.not_le.mpr c_30_3908 h9)).symm)
        exact ihP (kP + 1) lv _ (by omega) (by first | assumption | exact Or.inl rfl | exact Or.inr rfl | exact rfl) (lv_sub hl [0, 1, 2, 3] rfl)
      · refine lv_iload_n hx hb gX0_ruling_1.2.2.2.2.2.2.2.2.2 rfl (lv_at0 hl) ?_
        refine lv_istore_n (lv' := [(1, .int (nI kP)), (3, .int (nI kP)), (2, .int (DAYV td vd)), (0, .ref h0)]) hx hb gX0_ruling_2.1 rfl hl (by decide) rfl (fun ls hl => ?_)
        refine lv_iinc (v := nI (kP + 1)) (lv' := [(3, .int (nI (kP + 1))), (1, .int (nI kP)), (2, .int (DAYV td vd)), (0, .ref h0)]) hx hb gX0_ruling_2.2.1 hl (k := 1) rfl (nI_1 _) (by decide) rfl (fun ls hl => ?_)
        refine lv_goto (tgt := 9) hx hb gX0_ruling_2.2.2.1 (by decide) ?_
        have hst9 : nI kP = LAT (RLO DY (DAYV td vd) (kP + 1)) := (congrArg LAT (LTS.y (Int32.not_lt.mp c_30_3908))).symm
        exact ihP (kP + 1) (nI kP) _ (by omega) (by first | assumption | exact Or.inl rfl | exact Or.inr rfl | exact rfl) (lv_sub hl [0, 2, 1, 3] rfl)
  exact keyP kbversions 0 (-1) _ (by omega) (by first | assumption | exact Or.inl rfl | exact Or.inr rfl | exact rfl) (lv_sub hl [0, 1, 2, 3] rfl)
def K_c_isSoX (l : Launch) (G : GG) (h0 : Nat) (jv : Nat) (bb : Nat) (sg : Nat) (fc : Nat) (sh : Nat) (r1 : Int32) (rc : Int32) (rh : Int32) (ffc : Nat → Int32) : Prop := MP l G yX6_isSo cX6_isSo 5 (some .boolean) 1 [.ref h0, .int (nI jv)] [(h0, oX6 bb sg fc sh r1 rc rh), (fc, iA G 5 ffc)] (fun r : Int32 => (r = 1 ∧ SOV ffc jv = true) ∨ (r = 0 ∧ SOV ffc jv = false))
set_option maxHeartbeats 4000000 in
set_option maxRecDepth 100000 in
theorem c_isSoX (l : Launch) (G : GG) (h0 : Nat) (jv : Nat) (bb : Nat) (sg : Nat) (fc : Nat) (sh : Nat) (r1 : Int32) (rc : Int32) (rh : Int32) (ffc : Nat → Int32) (hjv : jv ≤ 14999) : K_c_isSoX l G h0 jv bb sg fc sh r1 rc rh ffc := by
  refine MP.start (by decide +kernel) (Nat.le_of_ble_eq_true rfl) ?_
  intro p e s m below meth c ls hC hK hP hD hl
  refine absQ (fun Q0 hQ0 => ?_)
  have hl : lv_has ls 5 [(0, .ref h0), (1, .int (nI jv))] := hl
  refine Kan8 hC (fun hx hb hr hml hB hown hlocks hnm => ?_)
  refine lv_iload_n hx hb gX6_isSo_0.1 rfl (lv_at1 hl) ?_
  refine lv_sipush (v := 1000) hx hb gX6_isSo_0.2.1 (by decide) ?_
  refine lv_idiv hx hb gX6_isSo_0.2.2.1 (by decide) ?_
  refine eqi (x1 := nI (jv / 1000)) (pk_div (d := 1000) (by omega) (by decide) (by decide)) ?_
  refine lv_iconst (v := 3) hx hb gX6_isSo_0.2.2.2.1 (by decide) ?_
  refine lv_idiv hx hb gX6_isSo_0.2.2.2.2.1 (by decide) ?_
  refine eqi (x1 := nI ((jv / 1000) / 3)) (pk_div (d := 3) (by omega) (by decide) (by decide)) ?_
  refine lv_istore_n (lv' := [(2, .int (nI ((jv / 1000) / 3))), (0, .ref h0), (1, .int (nI jv))]) hx hb gX6_isSo_0.2.2.2.2.2.1 rfl hl (by decide) rfl (fun ls hl => ?_)
  refine lv_iload_n hx hb gX6_isSo_0.2.2.2.2.2.2.1 rfl (lv_at2 hl) ?_
  refine lv_sipush (v := 1000) hx hb gX6_isSo_0.2.2.2.2.2.2.2.1 (by decide) ?_
  refine lv_idiv hx hb gX6_isSo_0.2.2.2.2.2.2.2.2.1 (by decide) ?_
  refine eqi (x1 := nI (jv / 1000)) (pk_div (d := 1000) (by omega) (by decide) (by decide)) ?_
  refine lv_iconst (v := 3) hx hb gX6_isSo_0.2.2.2.2.2.2.2.2.2 (by decide) ?_
  refine lv_irem hx hb gX6_isSo_1.1 (by decide) ?_
  refine eqi (x1 := nI ((jv / 1000) % 3)) (pk_rem (d := 3) (by omega) (by decide) (by decide)) ?_
  refine lv_istore_n (lv' := [(3, .int (nI ((jv / 1000) % 3))), (2, .int (nI ((jv / 1000) / 3))), (0, .ref h0), (1, .int (nI jv))]) hx hb gX6_isSo_1.2.1 rfl hl (by decide) rfl (fun ls hl => ?_)
  refine lv_iload_n hx hb gX6_isSo_1.2.2.1 rfl (lv_at3 hl) ?_
  refine lv_sipush (v := 1000) hx hb gX6_isSo_1.2.2.2.1 (by decide) ?_
  refine lv_irem hx hb gX6_isSo_1.2.2.2.2.1 (by decide) ?_
  refine eqi (x1 := nI (jv % 1000)) (pk_rem (d := 1000) (by omega) (by decide) (by decide)) ?_
  refine lv_istore (lv' := [(4, .int (nI (jv % 1000))), (3, .int (nI ((jv / 1000) % 3))), (2, .int (nI ((jv / 1000) / 3))), (0, .ref h0), (1, .int (nI jv))]) hx hb gX6_isSo_1.2.2.2.2.2.1 hl (by decide) rfl (fun ls hl => ?_)
  refine lv_iload_n hx hb gX6_isSo_1.2.2.2.2.2.2.1 rfl (lv_at2 hl) ?_
  refine lv_if_lt (tgt := 36) hx hb gX6_isSo_1.2.2.2.2.2.2.2.1 (by decide) (fun c9 => absurd c9 (nI_pos (by omega))) (fun _ => ?_)
  refine lv_iload_n hx hb gX6_isSo_1.2.2.2.2.2.2.2.2.1 rfl (lv_at2 hl) ?_
  refine lv_aload_n hx hb gX6_isSo_1.2.2.2.2.2.2.2.2.2 rfl (lv_at3 hl) ?_
  refine gf_X6_9 hC rfl hK hP 0 rfl rfl gX6_isSo_2.1 ?_
  refine va_alen (v := 5) hx hb hK.1 hP 1 0 rfl rfl (show Int32.ofNat 5 = 5 by decide) gX6_isSo_2.2.1 ?_
  refine lv_icmp_lt (tgt := 38) hx hb gX6_isSo_2.2.2.1 (by decide) (fun _ => ?_) (fun c9 => absurd ((nI_ltI (a := ((jv / 1000) / 3)) (b := 5) (by omega) (by decide)).mpr (by omega)) c9)
  refine lv_iload_n hx hb gX6_isSo_2.2.2.2.2.2.1 rfl (lv_at1 hl) ?_
  refine lv_if_ne (tgt := 59) hx hb gX6_isSo_2.2.2.2.2.2.2.1 (by decide) (fun c_39_3909 => ?_) (fun c_39_3909 => ?_)
  · refine lv_iload_n hx hb gX6_isSo_3.2.2.2.2.2.2.2.1 rfl (lv_at1 hl) ?_
    refine lv_iconst (v := 1) hx hb gX6_isSo_3.2.2.2.2.2.2.2.2.1 (by decide) ?_
    refine lv_icmp_ne (tgt := 83) hx hb gX6_isSo_3.2.2.2.2.2.2.2.2.2 (by decide) (fun c_61_3910 => ?_) (fun c_61_3910 => ?_)
    · refine lv_aload_n hx hb gX6_isSo_5.1 rfl (lv_at3 hl) ?_
      refine gf_X6_9 hC rfl hK hP 0 rfl rfl gX6_isSo_5.2.1 ?_
      refine lv_iload_n hx hb gX6_isSo_5.2.2.1 rfl (lv_at2 hl) ?_
      refine aldN hC hK hP 1 rfl (k := ((jv / 1000) / 3)) (by omega) (Nat.le_of_ble_eq_true rfl) (v := ffc ((jv / 1000) / 3)) rfl gX6_isSo_5.2.2.2.1 ?_
      refine lv_iload hx hb gX6_isSo_5.2.2.2.2.1 (lv_at0 hl) ?_
      refine lv_icmp_le (tgt := 98) hx hb gX6_isSo_5.2.2.2.2.2.1 (by decide) (fun c_91_3911 => ?_) (fun c_91_3911 => ?_)
      · refine lv_iconst (v := 0) hx hb gX6_isSo_5.2.2.2.2.2.2.2.2.1 (by decide) ?_
        refine toQ hQ0 ?_
        exact RP (v := 0) hC (Or.inr ⟨rfl, SOV.g (fun h9 => c_39_3909 (congrArg nI h9)) (fun h9 => c_61_3910 (congrArg nI h9)) (decide_eq_false (Int32.not_lt.mpr c_91_3911))⟩) (by decide +kernel) gX6_isSo_5.2.2.2.2.2.2.2.2.2
      · refine lv_iconst (v := 1) hx hb gX6_isSo_5.2.2.2.2.2.2.1 (by decide) ?_
        refine lv_goto (tgt := 99) hx hb gX6_isSo_5.2.2.2.2.2.2.2.1 (by decide) ?_
        refine toQ hQ0 ?_
        exact RP (v := 1) hC (Or.inl ⟨rfl, SOV.g (fun h9 => c_39_3909 (congrArg nI h9)) (fun h9 => c_61_3910 (congrArg nI h9)) (decide_eq_true (Int32.not_le.mp c_91_3911))⟩) (by decide +kernel) gX6_isSo_5.2.2.2.2.2.2.2.2.2
    · refine lv_aload_n hx hb gX6_isSo_4.1 rfl (lv_at3 hl) ?_
      refine gf_X6_9 hC rfl hK hP 0 rfl rfl gX6_isSo_4.2.1 ?_
      refine lv_iload_n hx hb gX6_isSo_4.2.2.1 rfl (lv_at2 hl) ?_
      refine aldN hC hK hP 1 rfl (k := ((jv / 1000) / 3)) (by omega) (Nat.le_of_ble_eq_true rfl) (v := ffc ((jv / 1000) / 3)) rfl gX6_isSo_4.2.2.2.1 ?_
      refine lv_iload hx hb gX6_isSo_4.2.2.2.2.1 (lv_at0 hl) ?_
      refine lv_icmp_ne (tgt := 79) hx hb gX6_isSo_4.2.2.2.2.2.1 (by decide) (fun c_72_3912 => ?_) (fun c_72_3912 => ?_)
      · refine lv_iconst (v := 0) hx hb gX6_isSo_4.2.2.2.2.2.2.2.2.1 (by decide) ?_
        refine lv_goto (tgt := 99) hx hb gX6_isSo_4.2.2.2.2.2.2.2.2.2 (by decide) ?_
        refine toQ hQ0 ?_
        exact RP (v := 0) hC (Or.inr ⟨rfl, SOV.e ((nI_eq (b := 1) (by omega) (by decide)).mp c_61_3910) (decide_eq_false c_72_3912)⟩) (by decide +kernel) gX6_isSo_5.2.2.2.2.2.2.2.2.2
      · refine lv_iconst (v := 1) hx hb gX6_isSo_4.2.2.2.2.2.2.1 (by decide) ?_
        refine lv_goto (tgt := 99) hx hb gX6_isSo_4.2.2.2.2.2.2.2.1 (by decide) ?_
        refine toQ hQ0 ?_
        exact RP (v := 1) hC (Or.inl ⟨rfl, SOV.e ((nI_eq (b := 1) (by omega) (by decide)).mp c_61_3910) (decide_eq_true c_72_3912)⟩) (by decide +kernel) gX6_isSo_5.2.2.2.2.2.2.2.2.2
  · refine lv_aload_n hx hb gX6_isSo_2.2.2.2.2.2.2.2.1 rfl (lv_at3 hl) ?_
    refine gf_X6_9 hC rfl hK hP 0 rfl rfl gX6_isSo_2.2.2.2.2.2.2.2.2.1 ?_
    refine lv_iload_n hx hb gX6_isSo_2.2.2.2.2.2.2.2.2.2 rfl (lv_at2 hl) ?_
    refine aldN hC hK hP 1 rfl (k := ((jv / 1000) / 3)) (by omega) (Nat.le_of_ble_eq_true rfl) (v := ffc ((jv / 1000) / 3)) rfl gX6_isSo_3.1 ?_
    refine lv_iload hx hb gX6_isSo_3.2.1 (lv_at0 hl) ?_
    refine lv_icmp_ge (tgt := 57) hx hb gX6_isSo_3.2.2.1 (by decide) (fun c_50_3913 => ?_) (fun c_50_3913 => ?_)
    · refine lv_iconst (v := 0) hx hb gX6_isSo_3.2.2.2.2.2.1 (by decide) ?_
      refine toQ hQ0 ?_
      exact RP (v := 0) hC (Or.inr ⟨rfl, SOV.l ((nI_eq (b := 0) (by omega) (by decide)).mp c_39_3909) (decide_eq_false (Int32.not_lt.mpr c_50_3913))⟩) (by decide +kernel) gX6_isSo_3.2.2.2.2.2.2.1
    · refine lv_iconst (v := 1) hx hb gX6_isSo_3.2.2.2.1 (by decide) ?_
      refine lv_goto (tgt := 58) hx hb gX6_isSo_3.2.2.2.2.1 (by decide) ?_
      refine toQ hQ0 ?_
      exact RP (v := 1) hC (Or.inl ⟨rfl, SOV.l ((nI_eq (b := 0) (by omega) (by decide)).mp c_39_3909) (decide_eq_true (Int32.not_le.mp c_50_3913))⟩) (by decide +kernel) gX6_isSo_3.2.2.2.2.2.2.1
def K_c_holdsX (l : Launch) (G : GG) (h0 : Nat) (jl : Nat) (T9 : List Int32) (bb : Nat) (sg : Nat) (fc : Nat) (sh : Nat) (r1 : Int32) (rc : Int32) (rh : Int32) (ffc : Nat → Int32) (bpersons : Nat) (bpapers : Nat) (bstamps : Nat) (bversions : Nat) (blines : Nat) (bsteps : Nat) (bsayings : Nat) (bfindings : Nat) (bwarnings : Nat) (bquestions : Nat) (td : Int32) (vd : Int32) (vl : Int32) (gp : Int32) (blinesc : Nat) (kblines : Nat) (fblines : Nat → Int32) (bstepsc : Nat) (kbsteps : Nat) (fbsteps : Nat → Int32) : Prop := MP l G yX6_holds cX6_holds 8 (some .boolean) 3 [.ref h0, .int (nI jl)] [(h0, oX6 bb sg fc sh r1 rc rh), (fc, iA G 5 ffc), (bb, oX0 bpersons bpapers bstamps bversions blines bsteps bsayings bfindings bwarnings bquestions td vd vl gp), (blines, oX8 72 7 blinesc (nI kblines)), (blinesc, iA G 504 fblines), (bsteps, oX8 960 1 bstepsc (nI kbsteps)), (bstepsc, iA G 960 fbsteps)] (fun r : Int32 => (r = 1 ∧ PLN ffc T9 1 % 2 = 1) ∨ (r = 0 ∧ ¬ PLN ffc T9 1 % 2 = 1))
set_option maxHeartbeats 4000000 in
set_option maxRecDepth 100000 in
theorem c_holdsX (l : Launch) (G : GG) (h0 : Nat) (jl : Nat) (T9 : List Int32) (bb : Nat) (sg : Nat) (fc : Nat) (sh : Nat) (r1 : Int32) (rc : Int32) (rh : Int32) (ffc : Nat → Int32) (bpersons : Nat) (bpapers : Nat) (bstamps : Nat) (bversions : Nat) (blines : Nat) (bsteps : Nat) (bsayings : Nat) (bfindings : Nat) (bwarnings : Nat) (bquestions : Nat) (td : Int32) (vd : Int32) (vl : Int32) (gp : Int32) (blinesc : Nat) (kblines : Nat) (fblines : Nat → Int32) (bstepsc : Nat) (kbsteps : Nat) (fbsteps : Nat → Int32) (hkblines : kblines ≤ 72) (hkbsteps : kbsteps ≤ 960) (hHS : HSG fblines fbsteps kbsteps jl T9) (hjl : jl < kblines) : K_c_holdsX l G h0 jl T9 bb sg fc sh r1 rc rh ffc bpersons bpapers bstamps bversions blines bsteps bsayings bfindings bwarnings bquestions td vd vl gp blinesc kblines fblines bstepsc kbsteps fbsteps := by
  refine MP.start (by decide +kernel) (Nat.le_of_ble_eq_true rfl) ?_
  intro p e s m below meth c ls hC hK hP hD hl
  refine absQ (fun Q0 hQ0 => ?_)
  have hl : lv_has ls 8 [(0, .ref h0), (1, .int (nI jl))] := hl
  refine Kan8 hC (fun hx hb hr hml hB hown hlocks hnm => ?_)
  obtain ⟨la9, ea5, ea6, hla9, hst9, hTc⟩ := hHS
  obtain ⟨n9, hn9⟩ : ∃ z9, z9 = T9.length := ⟨_, rfl⟩
  rw [← hn9] at ea6 hla9
  refine lv_aload_n hx hb gX6_holds_0.1 rfl (lv_at0 hl) ?_
  refine gf_X6_18 hC rfl hK hP 0 rfl rfl gX6_holds_0.2.1 ?_
  refine gf_X6_65 hC rfl hK hP 2 rfl rfl gX6_holds_0.2.2.1 ?_
  refine lv_iload_n hx hb gX6_holds_0.2.2.2.1 rfl (lv_at1 hl) ?_
  refine lv_iconst (v := 5) hx hb gX6_holds_0.2.2.2.2.1 (by decide) ?_
  refine pV hC hK hl hP hD (c_T_at l G blines (nI jl) 5 72 7 blinesc kblines fblines (hkblines) (by omega) (by omega)) si_X6_46 [3, 4] sm_3_4 fm_3_4 nd_3_4 rfl rfl rfl rfl rfl (Nat.le_of_ble_eq_true rfl) rm_3_1_3 ⟨by first | exact Nat.le_of_ble_eq_true rfl | exact Nat.zero_le _, by first | exact Nat.le_of_ble_eq_true rfl | exact Nat.zero_le _⟩ gX6_holds_0.2.2.2.2.2.1 (fun r3914 hr3914 => ?_)
  refine eqi (x1 := nI la9) ((hr3914.trans (tatq (by omega) (by omega) (by decide) (by decide) rfl)).trans (ea5)) ?_
  refine lv_istore_n (lv' := [(2, .int (nI la9)), (0, .ref h0), (1, .int (nI jl))]) hx hb gX6_holds_0.2.2.2.2.2.2.1 rfl hl (by decide) rfl (fun ls hl => ?_)
  refine lv_aload_n hx hb gX6_holds_0.2.2.2.2.2.2.2.1 rfl (lv_at1 hl) ?_
  refine gf_X6_18 hC rfl hK hP 0 rfl rfl gX6_holds_0.2.2.2.2.2.2.2.2.1 ?_
  refine gf_X6_65 hC rfl hK hP 2 rfl rfl gX6_holds_0.2.2.2.2.2.2.2.2.2 ?_
  refine lv_iload_n hx hb gX6_holds_1.1 rfl (lv_at2 hl) ?_
  refine lv_bipush (v := 6) hx hb gX6_holds_1.2.1 (by decide) ?_
  refine pV hC hK hl hP hD (c_T_at l G blines (nI jl) 6 72 7 blinesc kblines fblines (hkblines) (by omega) (by omega)) si_X6_46 [3, 4] sm_3_4 fm_3_4 nd_3_4 rfl rfl rfl rfl rfl (Nat.le_of_ble_eq_true rfl) rm_3_1_3 ⟨by first | exact Nat.le_of_ble_eq_true rfl | exact Nat.zero_le _, by first | exact Nat.le_of_ble_eq_true rfl | exact Nat.zero_le _⟩ gX6_holds_1.2.2.1 (fun r3916 hr3916 => ?_)
  refine eqi (x1 := nI n9) ((hr3916.trans (tatq (by omega) (by omega) (by decide) (by decide) rfl)).trans (ea6)) ?_
  refine lv_istore_n (lv' := [(3, .int (nI n9)), (2, .int (nI la9)), (0, .ref h0), (1, .int (nI jl))]) hx hb gX6_holds_1.2.2.2.1 rfl hl (by decide) rfl (fun ls hl => ?_)
  refine lv_iconst (v := 1) hx hb gX6_holds_1.2.2.2.2.1 (by decide) ?_
  refine lv_istore (lv' := [(4, .int 1), (3, .int (nI n9)), (2, .int (nI la9)), (0, .ref h0), (1, .int (nI jl))]) hx hb gX6_holds_1.2.2.2.2.2.1 hl (by decide) rfl (fun ls hl => ?_)
  refine lv_iconst (v := 0) hx hb gX6_holds_1.2.2.2.2.2.2.1 (by decide) ?_
  refine lv_istore (lv' := [(5, .int 0), (4, .int 1), (3, .int (nI n9)), (2, .int (nI la9)), (0, .ref h0), (1, .int (nI jl))]) hx hb gX6_holds_1.2.2.2.2.2.2.2.1 hl (by decide) rfl (fun ls hl => ?_)
  have keyP : ∀ (nP kP : Nat) (pq : Nat) (ls : Array Slot), kP + nP = n9 → (pq = PTK ffc T9 kP) → lv_has ls 8 [(5, .int (nI kP)), (4, .int (nI pq)), (3, .int (nI n9)), (2, .int (nI la9)), (0, .ref h0), (1, .int (nI jl))] → W p l e (RM 3 0 0) s m ([.ref h0, .int (nI jl)] : List Value).toArray below meth c s.heap [] 0 0 Q0 (F0 m 33 ls []) := by
    intro nP
    induction nP with
    | zero =>
      intro kP pq ls hkP hpq hl
      obtain rfl : n9 = kP := by omega
      have hl : lv_has ls 8 [(5, .int (nI n9)), (4, .int (nI pq)), (3, .int (nI n9)), (2, .int (nI la9)), (0, .ref h0), (1, .int (nI jl))] := hl
      refine lv_iload hx hb gX6_holds_1.2.2.2.2.2.2.2.2.1 (lv_at0 hl) ?_
      refine lv_iload_n hx hb gX6_holds_1.2.2.2.2.2.2.2.2.2 rfl (lv_at2 hl) ?_
      refine lv_icmp_ge (tgt := 143) hx hb gX6_holds_2.1 (by decide) (fun _ => ?_) (fun c9 => absurd (Int32.le_refl _) c9)
      have hpb9 : pq < 4096 := by rw [hpq]; exact PTK.lt hTc (by omega)
      refine lv_iload hx hb gX6_holds_7.2.2.2.2.2.2.1 (lv_at1 hl) ?_
      refine lv_iconst (v := 1) hx hb gX6_holds_7.2.2.2.2.2.2.2.1 (by decide) ?_
      refine lv_iand hx hb gX6_holds_7.2.2.2.2.2.2.2.2.1 ?_
      refine eqi (x1 := nI (pq % 2)) (PLQ.low (by omega)) ?_
      refine lv_iconst (v := 1) hx hb gX6_holds_7.2.2.2.2.2.2.2.2.2 (by decide) ?_
      refine lv_icmp_ne (tgt := 155) hx hb gX6_holds_8.1 (by decide) (fun c_148_3918 => ?_) (fun c_148_3918 => ?_)
      · refine lv_iconst (v := 0) hx hb gX6_holds_8.2.2.2.1 (by decide) ?_
        refine toQ hQ0 ?_
        exact RP (v := 0) hC (Or.inr ⟨rfl, by rw [← PTK.all, ← hn9, ← hpq]; exact fun h9 => c_148_3918 (congrArg nI h9)⟩) (by decide +kernel) gX6_holds_8.2.2.2.2
      · refine lv_iconst (v := 1) hx hb gX6_holds_8.2.1 (by decide) ?_
        refine lv_goto (tgt := 156) hx hb gX6_holds_8.2.2.1 (by decide) ?_
        refine toQ hQ0 ?_
        exact RP (v := 1) hC (Or.inl ⟨rfl, by rw [← PTK.all, ← hn9, ← hpq]; exact (nI_eq (b := 1) (by omega) (by decide)).mp c_148_3918⟩) (by decide +kernel) gX6_holds_8.2.2.2.2
    | succ nP ihP =>
      intro kP pq ls hkP hpq hl
      refine lv_iload hx hb gX6_holds_1.2.2.2.2.2.2.2.2.1 (lv_at0 hl) ?_
      refine lv_iload_n hx hb gX6_holds_1.2.2.2.2.2.2.2.2.2 rfl (lv_at2 hl) ?_
      refine lv_icmp_ge (tgt := 143) hx hb gX6_holds_2.1 (by decide) (fun c9 => absurd c9 (nI_ge (a := kP) (b := n9) (by omega) (by omega))) (fun _ => ?_)
      have hpb9 : pq < 4096 := by rw [hpq]; exact PTK.lt hTc (by omega)
      refine lv_aload_n hx hb gX6_holds_2.2.1 rfl (lv_at4 hl) ?_
      refine gf_X6_18 hC rfl hK hP 0 rfl rfl gX6_holds_2.2.2.1 ?_
      refine gf_X6_68 hC rfl hK hP 2 rfl rfl gX6_holds_2.2.2.2.1 ?_
      refine lv_iload_n hx hb gX6_holds_2.2.2.2.2.1 rfl (lv_at3 hl) ?_
      refine lv_iload hx hb gX6_holds_2.2.2.2.2.2.1 (lv_at0 hl) ?_
      refine lv_iadd hx hb gX6_holds_2.2.2.2.2.2.2.1 ?_
      refine eqi (x1 := nI (la9 + kP)) (nI_add la9 kP) ?_
      refine lv_iconst (v := 0) hx hb gX6_holds_2.2.2.2.2.2.2.2.1 (by decide) ?_
      refine pV hC hK hl hP hD (c_T_at l G bsteps (nI (la9 + kP)) 0 960 1 bstepsc kbsteps fbsteps (hkbsteps) (by omega) (by omega)) si_X6_46 [5, 6] sm_5_6 fm_5_6 nd_5_6 rfl rfl rfl rfl rfl (Nat.le_of_ble_eq_true rfl) rm_3_1_3 ⟨by first | exact Nat.le_of_ble_eq_true rfl | exact Nat.zero_le _, by first | exact Nat.le_of_ble_eq_true rfl | exact Nat.zero_le _⟩ gX6_holds_2.2.2.2.2.2.2.2.2.1 (fun r3919 hr3919 => ?_)
      rcases hTc.1 (T9.getD kP 0) (getD_mem (by omega)) with ev9 | ev9 | ev9 | ⟨jv9, hjv9, ev9⟩
      · refine eqi (x1 := (-1)) (((hr3919.trans (tatq (by omega) (by omega) (by decide) (by decide) rfl)).trans ((congrArg fbsteps (Nat.mul_one (la9 + kP))).trans (hst9 kP (by omega)))).trans ev9) ?_
        refine lv_istore (lv' := [(6, .int (-1)), (5, .int (nI kP)), (4, .int (nI pq)), (3, .int (nI n9)), (2, .int (nI la9)), (0, .ref h0), (1, .int (nI jl))]) hx hb gX6_holds_2.2.2.2.2.2.2.2.2.2 hl (by decide) rfl (fun ls hl => ?_)
        refine lv_iload hx hb gX6_holds_3.1 (lv_at0 hl) ?_
        refine lv_if_lt (tgt := 85) hx hb gX6_holds_3.2.1 (by decide) (fun _ => ?_) (fun c9 => absurd (by decide) c9)
        refine lv_iload hx hb gX6_holds_4.2.2.2.2.2.1 (lv_at0 hl) ?_
        refine lv_iconst (v := (-1)) hx hb gX6_holds_4.2.2.2.2.2.2.1 (by decide) ?_
        refine lv_icmp_ne (tgt := 100) hx hb gX6_holds_4.2.2.2.2.2.2.2.1 (by decide) (fun c9 => absurd (by decide) c9) (fun _ => ?_)
        refine lv_iload hx hb gX6_holds_4.2.2.2.2.2.2.2.2.1 (lv_at2 hl) ?_
        refine lv_iconst (v := 1) hx hb gX6_holds_4.2.2.2.2.2.2.2.2.2 (by decide) ?_
        refine lv_ixor hx hb gX6_holds_5.1 ?_
        refine eqi (x1 := nI (if pq % 2 = 1 then pq - 1 else pq + 1)) ((PLQ.all (by omega)).1) ?_
        refine lv_istore (lv' := [(4, .int (nI (if pq % 2 = 1 then pq - 1 else pq + 1))), (6, .int (-1)), (5, .int (nI kP)), (3, .int (nI n9)), (2, .int (nI la9)), (0, .ref h0), (1, .int (nI jl))]) hx hb gX6_holds_5.2.1 hl (by decide) rfl (fun ls hl => ?_)
        refine lv_goto (tgt := 137) hx hb gX6_holds_5.2.2.1 (by decide) ?_
        refine lv_iinc (v := nI (kP + 1)) (lv' := [(5, .int (nI (kP + 1))), (4, .int (nI (if pq % 2 = 1 then pq - 1 else pq + 1))), (6, .int (-1)), (3, .int (nI n9)), (2, .int (nI la9)), (0, .ref h0), (1, .int (nI jl))]) hx hb gX6_holds_7.2.2.2.2.1 hl (k := 2) rfl (nI_1 _) (by decide) rfl (fun ls hl => ?_)
        refine lv_goto (tgt := 33) hx hb gX6_holds_7.2.2.2.2.2.1 (by decide) ?_
        have hst8 : (if pq % 2 = 1 then pq - 1 else pq + 1) = PTK ffc T9 (kP + 1) := PTK.nt hpq (by omega) ev9
        exact ihP (kP + 1) (if pq % 2 = 1 then pq - 1 else pq + 1) _ (by omega) (by first | assumption | exact Or.inl rfl | exact Or.inr rfl | omega | exact rfl) (lv_sub hl [0, 1, 3, 4, 5, 6] rfl)
      · refine eqi (x1 := (-2)) (((hr3919.trans (tatq (by omega) (by omega) (by decide) (by decide) rfl)).trans ((congrArg fbsteps (Nat.mul_one (la9 + kP))).trans (hst9 kP (by omega)))).trans ev9) ?_
        refine lv_istore (lv' := [(6, .int (-2)), (5, .int (nI kP)), (4, .int (nI pq)), (3, .int (nI n9)), (2, .int (nI la9)), (0, .ref h0), (1, .int (nI jl))]) hx hb gX6_holds_2.2.2.2.2.2.2.2.2.2 hl (by decide) rfl (fun ls hl => ?_)
        refine lv_iload hx hb gX6_holds_3.1 (lv_at0 hl) ?_
        refine lv_if_lt (tgt := 85) hx hb gX6_holds_3.2.1 (by decide) (fun _ => ?_) (fun c9 => absurd (by decide) c9)
        refine lv_iload hx hb gX6_holds_4.2.2.2.2.2.1 (lv_at0 hl) ?_
        refine lv_iconst (v := (-1)) hx hb gX6_holds_4.2.2.2.2.2.2.1 (by decide) ?_
        refine lv_icmp_ne (tgt := 100) hx hb gX6_holds_4.2.2.2.2.2.2.2.1 (by decide) (fun _ => ?_) (fun c9 => absurd c9 (by decide))
        rcases Nat.mod_two_eq_zero_or_one pq with hpm | hpm
        · refine lv_iload hx hb gX6_holds_5.2.2.2.1 (lv_at2 hl) ?_
          refine lv_iconst (v := 1) hx hb gX6_holds_5.2.2.2.2.1 (by decide) ?_
          refine lv_iand hx hb gX6_holds_5.2.2.2.2.2.1 ?_
          refine eqi (x1 := 0) ((PLQ.low (by omega)).trans (congrArg nI hpm)) ?_
          refine lv_istore (lv' := [(7, .int 0), (6, .int (-2)), (5, .int (nI kP)), (4, .int (nI pq)), (3, .int (nI n9)), (2, .int (nI la9)), (0, .ref h0), (1, .int (nI jl))]) hx hb gX6_holds_5.2.2.2.2.2.2.1 hl (by decide) rfl (fun ls hl => ?_)
          refine lv_iload hx hb gX6_holds_5.2.2.2.2.2.2.2.1 (lv_at3 hl) ?_
          refine lv_iconst (v := 1) hx hb gX6_holds_5.2.2.2.2.2.2.2.2.1 (by decide) ?_
          refine lv_ishr hx hb gX6_holds_5.2.2.2.2.2.2.2.2.2 ?_
          refine eqi (x1 := nI (pq / 2)) (PLQ.shr (by omega)) ?_
          refine lv_istore (lv' := [(4, .int (nI (pq / 2))), (7, .int 0), (6, .int (-2)), (5, .int (nI kP)), (3, .int (nI n9)), (2, .int (nI la9)), (0, .ref h0), (1, .int (nI jl))]) hx hb gX6_holds_6.1 hl (by decide) rfl (fun ls hl => ?_)
          refine lv_iload hx hb gX6_holds_6.2.1 (lv_at2 hl) ?_
          refine lv_bipush (v := (-2)) hx hb gX6_holds_6.2.2.1 (by decide) ?_
          refine lv_icmp_ne (tgt := 130) hx hb gX6_holds_6.2.2.2.1 (by decide) (fun c9 => absurd (by decide) c9) (fun _ => ?_)
          refine lv_iload hx hb gX6_holds_6.2.2.2.2.1 (lv_at0 hl) ?_
          refine lv_bipush (v := (-2)) hx hb gX6_holds_6.2.2.2.2.2.1 (by decide) ?_
          refine lv_iload hx hb gX6_holds_6.2.2.2.2.2.2.1 (lv_at1 hl) ?_
          refine lv_ior hx hb gX6_holds_6.2.2.2.2.2.2.2.1 ?_
          refine eqi (x1 := (-2)) (by decide) ?_
          refine lv_iand hx hb gX6_holds_6.2.2.2.2.2.2.2.2.1 ?_
          refine eqi (x1 := nI ((pq / 2) - (pq / 2) % 2)) ((PLQ.all (by omega)).2.1) ?_
          refine lv_goto (tgt := 135) hx hb gX6_holds_6.2.2.2.2.2.2.2.2.2 (by decide) ?_
          refine lv_istore (lv' := [(4, .int (nI ((pq / 2) - (pq / 2) % 2))), (7, .int 0), (6, .int (-2)), (5, .int (nI kP)), (3, .int (nI n9)), (2, .int (nI la9)), (0, .ref h0), (1, .int (nI jl))]) hx hb gX6_holds_7.2.2.2.1 hl (by decide) rfl (fun ls hl => ?_)
          refine lv_iinc (v := nI (kP + 1)) (lv' := [(5, .int (nI (kP + 1))), (4, .int (nI ((pq / 2) - (pq / 2) % 2))), (7, .int 0), (6, .int (-2)), (3, .int (nI n9)), (2, .int (nI la9)), (0, .ref h0), (1, .int (nI jl))]) hx hb gX6_holds_7.2.2.2.2.1 hl (k := 3) rfl (nI_1 _) (by decide) rfl (fun ls hl => ?_)
          refine lv_goto (tgt := 33) hx hb gX6_holds_7.2.2.2.2.2.1 (by decide) ?_
          have hst8 : ((pq / 2) - (pq / 2) % 2) = PTK ffc T9 (kP + 1) := PTK.a0 hpq (by omega) ev9 hpm
          exact ihP (kP + 1) ((pq / 2) - (pq / 2) % 2) _ (by omega) (by first | assumption | exact Or.inl rfl | exact Or.inr rfl | omega | exact rfl) (lv_sub hl [0, 1, 4, 5, 6, 7] rfl)
        · refine lv_iload hx hb gX6_holds_5.2.2.2.1 (lv_at2 hl) ?_
          refine lv_iconst (v := 1) hx hb gX6_holds_5.2.2.2.2.1 (by decide) ?_
          refine lv_iand hx hb gX6_holds_5.2.2.2.2.2.1 ?_
          refine eqi (x1 := 1) ((PLQ.low (by omega)).trans (congrArg nI hpm)) ?_
          refine lv_istore (lv' := [(7, .int 1), (6, .int (-2)), (5, .int (nI kP)), (4, .int (nI pq)), (3, .int (nI n9)), (2, .int (nI la9)), (0, .ref h0), (1, .int (nI jl))]) hx hb gX6_holds_5.2.2.2.2.2.2.1 hl (by decide) rfl (fun ls hl => ?_)
          refine lv_iload hx hb gX6_holds_5.2.2.2.2.2.2.2.1 (lv_at3 hl) ?_
          refine lv_iconst (v := 1) hx hb gX6_holds_5.2.2.2.2.2.2.2.2.1 (by decide) ?_
          refine lv_ishr hx hb gX6_holds_5.2.2.2.2.2.2.2.2.2 ?_
          refine eqi (x1 := nI (pq / 2)) (PLQ.shr (by omega)) ?_
          refine lv_istore (lv' := [(4, .int (nI (pq / 2))), (7, .int 1), (6, .int (-2)), (5, .int (nI kP)), (3, .int (nI n9)), (2, .int (nI la9)), (0, .ref h0), (1, .int (nI jl))]) hx hb gX6_holds_6.1 hl (by decide) rfl (fun ls hl => ?_)
          refine lv_iload hx hb gX6_holds_6.2.1 (lv_at2 hl) ?_
          refine lv_bipush (v := (-2)) hx hb gX6_holds_6.2.2.1 (by decide) ?_
          refine lv_icmp_ne (tgt := 130) hx hb gX6_holds_6.2.2.2.1 (by decide) (fun c9 => absurd (by decide) c9) (fun _ => ?_)
          refine lv_iload hx hb gX6_holds_6.2.2.2.2.1 (lv_at0 hl) ?_
          refine lv_bipush (v := (-2)) hx hb gX6_holds_6.2.2.2.2.2.1 (by decide) ?_
          refine lv_iload hx hb gX6_holds_6.2.2.2.2.2.2.1 (lv_at1 hl) ?_
          refine lv_ior hx hb gX6_holds_6.2.2.2.2.2.2.2.1 ?_
          refine eqi (x1 := (-1)) (by decide) ?_
          refine lv_iand hx hb gX6_holds_6.2.2.2.2.2.2.2.2.1 ?_
          refine eqi (x1 := nI (pq / 2)) (Int32.and_neg_one) ?_
          refine lv_goto (tgt := 135) hx hb gX6_holds_6.2.2.2.2.2.2.2.2.2 (by decide) ?_
          refine lv_istore (lv' := [(4, .int (nI (pq / 2))), (7, .int 1), (6, .int (-2)), (5, .int (nI kP)), (3, .int (nI n9)), (2, .int (nI la9)), (0, .ref h0), (1, .int (nI jl))]) hx hb gX6_holds_7.2.2.2.1 hl (by decide) rfl (fun ls hl => ?_)
          refine lv_iinc (v := nI (kP + 1)) (lv' := [(5, .int (nI (kP + 1))), (4, .int (nI (pq / 2))), (7, .int 1), (6, .int (-2)), (3, .int (nI n9)), (2, .int (nI la9)), (0, .ref h0), (1, .int (nI jl))]) hx hb gX6_holds_7.2.2.2.2.1 hl (k := 3) rfl (nI_1 _) (by decide) rfl (fun ls hl => ?_)
          refine lv_goto (tgt := 33) hx hb gX6_holds_7.2.2.2.2.2.1 (by decide) ?_
          have hst8 : (pq / 2) = PTK ffc T9 (kP + 1) := PTK.a1 hpq (by omega) ev9 hpm
          exact ihP (kP + 1) (pq / 2) _ (by omega) (by first | assumption | exact Or.inl rfl | exact Or.inr rfl | omega | exact rfl) (lv_sub hl [0, 1, 4, 5, 6, 7] rfl)
      · refine eqi (x1 := (-3)) (((hr3919.trans (tatq (by omega) (by omega) (by decide) (by decide) rfl)).trans ((congrArg fbsteps (Nat.mul_one (la9 + kP))).trans (hst9 kP (by omega)))).trans ev9) ?_
        refine lv_istore (lv' := [(6, .int (-3)), (5, .int (nI kP)), (4, .int (nI pq)), (3, .int (nI n9)), (2, .int (nI la9)), (0, .ref h0), (1, .int (nI jl))]) hx hb gX6_holds_2.2.2.2.2.2.2.2.2.2 hl (by decide) rfl (fun ls hl => ?_)
        refine lv_iload hx hb gX6_holds_3.1 (lv_at0 hl) ?_
        refine lv_if_lt (tgt := 85) hx hb gX6_holds_3.2.1 (by decide) (fun _ => ?_) (fun c9 => absurd (by decide) c9)
        refine lv_iload hx hb gX6_holds_4.2.2.2.2.2.1 (lv_at0 hl) ?_
        refine lv_iconst (v := (-1)) hx hb gX6_holds_4.2.2.2.2.2.2.1 (by decide) ?_
        refine lv_icmp_ne (tgt := 100) hx hb gX6_holds_4.2.2.2.2.2.2.2.1 (by decide) (fun _ => ?_) (fun c9 => absurd c9 (by decide))
        rcases Nat.mod_two_eq_zero_or_one pq with hpm | hpm
        · refine lv_iload hx hb gX6_holds_5.2.2.2.1 (lv_at2 hl) ?_
          refine lv_iconst (v := 1) hx hb gX6_holds_5.2.2.2.2.1 (by decide) ?_
          refine lv_iand hx hb gX6_holds_5.2.2.2.2.2.1 ?_
          refine eqi (x1 := 0) ((PLQ.low (by omega)).trans (congrArg nI hpm)) ?_
          refine lv_istore (lv' := [(7, .int 0), (6, .int (-3)), (5, .int (nI kP)), (4, .int (nI pq)), (3, .int (nI n9)), (2, .int (nI la9)), (0, .ref h0), (1, .int (nI jl))]) hx hb gX6_holds_5.2.2.2.2.2.2.1 hl (by decide) rfl (fun ls hl => ?_)
          refine lv_iload hx hb gX6_holds_5.2.2.2.2.2.2.2.1 (lv_at3 hl) ?_
          refine lv_iconst (v := 1) hx hb gX6_holds_5.2.2.2.2.2.2.2.2.1 (by decide) ?_
          refine lv_ishr hx hb gX6_holds_5.2.2.2.2.2.2.2.2.2 ?_
          refine eqi (x1 := nI (pq / 2)) (PLQ.shr (by omega)) ?_
          refine lv_istore (lv' := [(4, .int (nI (pq / 2))), (7, .int 0), (6, .int (-3)), (5, .int (nI kP)), (3, .int (nI n9)), (2, .int (nI la9)), (0, .ref h0), (1, .int (nI jl))]) hx hb gX6_holds_6.1 hl (by decide) rfl (fun ls hl => ?_)
          refine lv_iload hx hb gX6_holds_6.2.1 (lv_at2 hl) ?_
          refine lv_bipush (v := (-2)) hx hb gX6_holds_6.2.2.1 (by decide) ?_
          refine lv_icmp_ne (tgt := 130) hx hb gX6_holds_6.2.2.2.1 (by decide) (fun _ => ?_) (fun c9 => absurd c9 (by decide))
          refine lv_iload hx hb gX6_holds_7.1 (lv_at0 hl) ?_
          refine lv_iload hx hb gX6_holds_7.2.1 (lv_at1 hl) ?_
          refine lv_ior hx hb gX6_holds_7.2.2.1 ?_
          refine eqi (x1 := nI (pq / 2)) (Int32.or_zero) ?_
          refine lv_istore (lv' := [(4, .int (nI (pq / 2))), (7, .int 0), (6, .int (-3)), (5, .int (nI kP)), (3, .int (nI n9)), (2, .int (nI la9)), (0, .ref h0), (1, .int (nI jl))]) hx hb gX6_holds_7.2.2.2.1 hl (by decide) rfl (fun ls hl => ?_)
          refine lv_iinc (v := nI (kP + 1)) (lv' := [(5, .int (nI (kP + 1))), (4, .int (nI (pq / 2))), (7, .int 0), (6, .int (-3)), (3, .int (nI n9)), (2, .int (nI la9)), (0, .ref h0), (1, .int (nI jl))]) hx hb gX6_holds_7.2.2.2.2.1 hl (k := 3) rfl (nI_1 _) (by decide) rfl (fun ls hl => ?_)
          refine lv_goto (tgt := 33) hx hb gX6_holds_7.2.2.2.2.2.1 (by decide) ?_
          have hst8 : (pq / 2) = PTK ffc T9 (kP + 1) := PTK.o0 hpq (by omega) ev9 hpm
          exact ihP (kP + 1) (pq / 2) _ (by omega) (by first | assumption | exact Or.inl rfl | exact Or.inr rfl | omega | exact rfl) (lv_sub hl [0, 1, 4, 5, 6, 7] rfl)
        · refine lv_iload hx hb gX6_holds_5.2.2.2.1 (lv_at2 hl) ?_
          refine lv_iconst (v := 1) hx hb gX6_holds_5.2.2.2.2.1 (by decide) ?_
          refine lv_iand hx hb gX6_holds_5.2.2.2.2.2.1 ?_
          refine eqi (x1 := 1) ((PLQ.low (by omega)).trans (congrArg nI hpm)) ?_
          refine lv_istore (lv' := [(7, .int 1), (6, .int (-3)), (5, .int (nI kP)), (4, .int (nI pq)), (3, .int (nI n9)), (2, .int (nI la9)), (0, .ref h0), (1, .int (nI jl))]) hx hb gX6_holds_5.2.2.2.2.2.2.1 hl (by decide) rfl (fun ls hl => ?_)
          refine lv_iload hx hb gX6_holds_5.2.2.2.2.2.2.2.1 (lv_at3 hl) ?_
          refine lv_iconst (v := 1) hx hb gX6_holds_5.2.2.2.2.2.2.2.2.1 (by decide) ?_
          refine lv_ishr hx hb gX6_holds_5.2.2.2.2.2.2.2.2.2 ?_
          refine eqi (x1 := nI (pq / 2)) (PLQ.shr (by omega)) ?_
          refine lv_istore (lv' := [(4, .int (nI (pq / 2))), (7, .int 1), (6, .int (-3)), (5, .int (nI kP)), (3, .int (nI n9)), (2, .int (nI la9)), (0, .ref h0), (1, .int (nI jl))]) hx hb gX6_holds_6.1 hl (by decide) rfl (fun ls hl => ?_)
          refine lv_iload hx hb gX6_holds_6.2.1 (lv_at2 hl) ?_
          refine lv_bipush (v := (-2)) hx hb gX6_holds_6.2.2.1 (by decide) ?_
          refine lv_icmp_ne (tgt := 130) hx hb gX6_holds_6.2.2.2.1 (by decide) (fun _ => ?_) (fun c9 => absurd c9 (by decide))
          refine lv_iload hx hb gX6_holds_7.1 (lv_at0 hl) ?_
          refine lv_iload hx hb gX6_holds_7.2.1 (lv_at1 hl) ?_
          refine lv_ior hx hb gX6_holds_7.2.2.1 ?_
          refine eqi (x1 := nI ((pq / 2) - (pq / 2) % 2 + 1)) ((PLQ.all (by omega)).2.2) ?_
          refine lv_istore (lv' := [(4, .int (nI ((pq / 2) - (pq / 2) % 2 + 1))), (7, .int 1), (6, .int (-3)), (5, .int (nI kP)), (3, .int (nI n9)), (2, .int (nI la9)), (0, .ref h0), (1, .int (nI jl))]) hx hb gX6_holds_7.2.2.2.1 hl (by decide) rfl (fun ls hl => ?_)
          refine lv_iinc (v := nI (kP + 1)) (lv' := [(5, .int (nI (kP + 1))), (4, .int (nI ((pq / 2) - (pq / 2) % 2 + 1))), (7, .int 1), (6, .int (-3)), (3, .int (nI n9)), (2, .int (nI la9)), (0, .ref h0), (1, .int (nI jl))]) hx hb gX6_holds_7.2.2.2.2.1 hl (k := 3) rfl (nI_1 _) (by decide) rfl (fun ls hl => ?_)
          refine lv_goto (tgt := 33) hx hb gX6_holds_7.2.2.2.2.2.1 (by decide) ?_
          have hst8 : ((pq / 2) - (pq / 2) % 2 + 1) = PTK ffc T9 (kP + 1) := PTK.o1 hpq (by omega) ev9 hpm
          exact ihP (kP + 1) ((pq / 2) - (pq / 2) % 2 + 1) _ (by omega) (by first | assumption | exact Or.inl rfl | exact Or.inr rfl | omega | exact rfl) (lv_sub hl [0, 1, 4, 5, 6, 7] rfl)
      · refine eqi (x1 := nI jv9) (((hr3919.trans (tatq (by omega) (by omega) (by decide) (by decide) rfl)).trans ((congrArg fbsteps (Nat.mul_one (la9 + kP))).trans (hst9 kP (by omega)))).trans ev9) ?_
        refine lv_istore (lv' := [(6, .int (nI jv9)), (5, .int (nI kP)), (4, .int (nI pq)), (3, .int (nI n9)), (2, .int (nI la9)), (0, .ref h0), (1, .int (nI jl))]) hx hb gX6_holds_2.2.2.2.2.2.2.2.2.2 hl (by decide) rfl (fun ls hl => ?_)
        refine lv_iload hx hb gX6_holds_3.1 (lv_at0 hl) ?_
        refine lv_if_lt (tgt := 85) hx hb gX6_holds_3.2.1 (by decide) (fun c9 => absurd c9 (nI_pos (by omega))) (fun _ => ?_)
        refine lv_iload hx hb gX6_holds_3.2.2.1 (lv_at2 hl) ?_
        refine lv_iconst (v := 1) hx hb gX6_holds_3.2.2.2.1 (by decide) ?_
        refine lv_ishl hx hb gX6_holds_3.2.2.2.2.1 ?_
        refine eqi (x1 := nI (2 * pq)) (PLQ.shl (by omega)) ?_
        refine lv_aload_n hx hb gX6_holds_3.2.2.2.2.2.1 rfl (lv_at5 hl) ?_
        refine lv_iload hx hb gX6_holds_3.2.2.2.2.2.2.1 (lv_at0 hl) ?_
        refine pV hC hK hl hP hD (c_isSoX l G h0 jv9 bb sg fc sh r1 rc rh ffc (by omega)) si_X6_71 [0, 1] sm_0_1 fm_0_1 nd_0_1 rfl rfl rfl rfl rfl (Nat.le_of_ble_eq_true rfl) rm_3_1_5 ⟨by first | exact Nat.le_of_ble_eq_true rfl | exact Nat.zero_le _, by first | exact Nat.le_of_ble_eq_true rfl | exact Nat.zero_le _⟩ gX6_holds_3.2.2.2.2.2.2.2.1 (Kors (Keqa fun a3922 => ?_) (Keqa fun a3922 => ?_))
        · refine lv_if_eq (tgt := 78) hx hb gX6_holds_3.2.2.2.2.2.2.2.2.1 (by decide) (fun c9 => absurd c9 (by decide)) (fun _ => ?_)
          refine lv_iconst (v := 1) hx hb gX6_holds_3.2.2.2.2.2.2.2.2.2 (by decide) ?_
          refine lv_goto (tgt := 79) hx hb gX6_holds_4.1 (by decide) ?_
          refine lv_ior hx hb gX6_holds_4.2.2.1 ?_
          refine eqi (x1 := nI ((2 * pq) + 1)) (PLQ.or1 (by omega)) ?_
          refine lv_istore (lv' := [(4, .int (nI ((2 * pq) + 1))), (6, .int (nI jv9)), (5, .int (nI kP)), (3, .int (nI n9)), (2, .int (nI la9)), (0, .ref h0), (1, .int (nI jl))]) hx hb gX6_holds_4.2.2.2.1 hl (by decide) rfl (fun ls hl => ?_)
          refine lv_goto (tgt := 137) hx hb gX6_holds_4.2.2.2.2.1 (by decide) ?_
          refine lv_iinc (v := nI (kP + 1)) (lv' := [(5, .int (nI (kP + 1))), (4, .int (nI ((2 * pq) + 1))), (6, .int (nI jv9)), (3, .int (nI n9)), (2, .int (nI la9)), (0, .ref h0), (1, .int (nI jl))]) hx hb gX6_holds_7.2.2.2.2.1 hl (k := 2) rfl (nI_1 _) (by decide) rfl (fun ls hl => ?_)
          refine lv_goto (tgt := 33) hx hb gX6_holds_7.2.2.2.2.2.1 (by decide) ?_
          have hst8 : ((2 * pq) + 1) = PTK ffc T9 (kP + 1) := PTK.f1 hpq (by omega) ev9 hjv9 a3922
          exact ihP (kP + 1) ((2 * pq) + 1) _ (by omega) (by first | assumption | exact Or.inl rfl | exact Or.inr rfl | omega | exact rfl) (lv_sub hl [0, 1, 3, 4, 5, 6] rfl)
        · refine lv_if_eq (tgt := 78) hx hb gX6_holds_3.2.2.2.2.2.2.2.2.1 (by decide) (fun _ => ?_) (fun c9 => absurd (by decide) c9)
          refine lv_iconst (v := 0) hx hb gX6_holds_4.2.1 (by decide) ?_
          refine lv_ior hx hb gX6_holds_4.2.2.1 ?_
          refine eqi (x1 := nI (2 * pq)) (Int32.or_zero) ?_
          refine lv_istore (lv' := [(4, .int (nI (2 * pq))), (6, .int (nI jv9)), (5, .int (nI kP)), (3, .int (nI n9)), (2, .int (nI la9)), (0, .ref h0), (1, .int (nI jl))]) hx hb gX6_holds_4.2.2.2.1 hl (by decide) rfl (fun ls hl => ?_)
          refine lv_goto (tgt := 137) hx hb gX6_holds_4.2.2.2.2.1 (by decide) ?_
          refine lv_iinc (v := nI (kP + 1)) (lv' := [(5, .int (nI (kP + 1))), (4, .int (nI (2 * pq))), (6, .int (nI jv9)), (3, .int (nI n9)), (2, .int (nI la9)), (0, .ref h0), (1, .int (nI jl))]) hx hb gX6_holds_7.2.2.2.2.1 hl (k := 2) rfl (nI_1 _) (by decide) rfl (fun ls hl => ?_)
          refine lv_goto (tgt := 33) hx hb gX6_holds_7.2.2.2.2.2.1 (by decide) ?_
          have hst8 : (2 * pq) = PTK ffc T9 (kP + 1) := PTK.f0 hpq (by omega) ev9 hjv9 a3922
          exact ihP (kP + 1) (2 * pq) _ (by omega) (by first | assumption | exact Or.inl rfl | exact Or.inr rfl | omega | exact rfl) (lv_sub hl [0, 1, 3, 4, 5, 6] rfl)
  exact keyP n9 0 1 _ (by omega) (by first | assumption | exact Or.inl rfl | exact Or.inr rfl | omega | exact rfl) (lv_sub hl [0, 1, 2, 3, 4, 5] rfl)
def K_c_considerX (l : Launch) (G : GG) (VL : Nat → List LNT) (VC : Nat → Nat → List Int32) (DY : Nat → Int32) (h0 : Nat) (je : Nat) (pp : Int32) (bb : Nat) (sg : Nat) (fc : Nat) (sh : Nat) (r1 : Int32) (rc : Int32) (rh : Int32) (ffc : Nat → Int32) (bpersons : Nat) (bpapers : Nat) (bstamps : Nat) (bversions : Nat) (blines : Nat) (bsteps : Nat) (bsayings : Nat) (bfindings : Nat) (bwarnings : Nat) (bquestions : Nat) (td : Int32) (vd : Int32) (vl : Int32) (gp : Int32) (bversionsc : Nat) (kbversions : Nat) (fbversions : Nat → Int32) (bpersonsc : Nat) (kbpersons : Nat) (fbpersons : Nat → Int32) (bpapersc : Nat) (kbpapers : Nat) (fbpapers : Nat → Int32) (blinesc : Nat) (kblines : Nat) (fblines : Nat → Int32) (bstepsc : Nat) (kbsteps : Nat) (fbsteps : Nat → Int32) : Prop := MV l G yX6_consider cX6_consider 5 4 0 0 [.ref h0, .int (nI je), .int pp] [(h0, oX6 bb sg fc sh r1 rc rh), (fc, iA G 5 ffc), (bb, oX0 bpersons bpapers bstamps bversions blines bsteps bsayings bfindings bwarnings bquestions td vd vl gp), (bversions, oX8 8 3 bversionsc (nI kbversions)), (bversionsc, iA G 24 fbversions), (bpersons, oX8 10 2 bpersonsc (nI kbpersons)), (bpersonsc, iA G 20 fbpersons), (bpapers, oX8 12 6 bpapersc (nI kbpapers)), (bpapersc, iA G 72 fbpapers), (blines, oX8 72 7 blinesc (nI kblines)), (blinesc, iA G 504 fblines), (bsteps, oX8 960 1 bstepsc (nI kbsteps)), (bstepsc, iA G 960 fbsteps)] (fun u : Int32 × Nat × Int32 × (Nat → Int32) => u.2.1 = LVN (RLO DY (DAYV td vd) kbversions) VL ∧ RUP fblines kblines u.1 u.2.1 u.2.2.1 (LNF (RLO DY (DAYV td vd) kbversions) VL) (TRF (RLO DY (DAYV td vd) kbversions) VC (FAX fbpersons fbpapers (VPP pp) kbpapers je))) (fun u : Int32 × Nat × Int32 × (Nat → Int32) => [(h0, oX6 bb sg fc sh u.1 (nI u.2.1) u.2.2.1), (fc, iA G 5 u.2.2.2), (bb, oX0 bpersons bpapers bstamps bversions blines bsteps bsayings bfindings bwarnings bquestions td vd vl gp), (bversions, oX8 8 3 bversionsc (nI kbversions)), (bversionsc, iA G 24 fbversions), (bpersons, oX8 10 2 bpersonsc (nI kbpersons)), (bpersonsc, iA G 20 fbpersons), (bpapers, oX8 12 6 bpapersc (nI kbpapers)), (bpapersc, iA G 72 fbpapers), (blines, oX8 72 7 blinesc (nI kblines)), (blinesc, iA G 504 fblines), (bsteps, oX8 960 1 bstepsc (nI kbsteps)), (bstepsc, iA G 960 fbsteps)])
set_option maxHeartbeats 4000000 in
set_option maxRecDepth 100000 in
theorem c_considerX (l : Launch) (G : GG) (VL : Nat → List LNT) (VC : Nat → Nat → List Int32) (DY : Nat → Int32) (h0 : Nat) (je : Nat) (pp : Int32) (bb : Nat) (sg : Nat) (fc : Nat) (sh : Nat) (r1 : Int32) (rc : Int32) (rh : Int32) (ffc : Nat → Int32) (bpersons : Nat) (bpapers : Nat) (bstamps : Nat) (bversions : Nat) (blines : Nat) (bsteps : Nat) (bsayings : Nat) (bfindings : Nat) (bwarnings : Nat) (bquestions : Nat) (td : Int32) (vd : Int32) (vl : Int32) (gp : Int32) (bversionsc : Nat) (kbversions : Nat) (fbversions : Nat → Int32) (bpersonsc : Nat) (kbpersons : Nat) (fbpersons : Nat → Int32) (bpapersc : Nat) (kbpapers : Nat) (fbpapers : Nat → Int32) (blinesc : Nat) (kblines : Nat) (fblines : Nat → Int32) (bstepsc : Nat) (kbsteps : Nat) (fbsteps : Nat → Int32) (hkbversions : kbversions ≤ 8) (hkbpersons : kbpersons ≤ 10) (hkbpapers : kbpapers ≤ 12) (hkblines : kblines ≤ 72) (hkbsteps : kbsteps ≤ 960) (hVZ : VCZ fbversions fblines fbsteps kbversions kblines kbsteps VL VC DY) (hje : je < kbpersons) : K_c_considerX l G VL VC DY h0 je pp bb sg fc sh r1 rc rh ffc bpersons bpapers bstamps bversions blines bsteps bsayings bfindings bwarnings bquestions td vd vl gp bversionsc kbversions fbversions bpersonsc kbpersons fbpersons bpapersc kbpapers fbpapers blinesc kblines fblines bstepsc kbsteps fbsteps := by
  refine MV.start (by decide +kernel) (Nat.le_of_ble_eq_true rfl) ?_
  intro p e s m below meth c A ls hC hK hP hD hS hA hl
  refine absQ (fun Q0 hQ0 => ?_)
  have hl : lv_has ls 5 [(0, .ref h0), (1, .int (nI je)), (2, .int pp)] := hl
  refine Kan8 hC (fun hx hb hr hml hB hown hlocks hnm => ?_)
  refine lv_aload_n hx hb gX6_consider_0.1 rfl (lv_at0 hl) ?_
  refine gf_X6_18 hC rfl hK hP 0 rfl rfl gX6_consider_0.2.1 ?_
  have hdy9 : ∀ v9, v9 < kbversions → fbversions (v9 * 3 + 0) = DY v9 := fun v9 h9 => (hVZ v9 h9).1
  refine pV hC hK hl hP hD (c_rulingX l G bb DY bpersons bpapers bstamps bversions blines bsteps bsayings bfindings bwarnings bquestions td vd vl gp bversionsc kbversions fbversions (hkbversions) (hdy9)) si_X6_36 [2, 3, 4] sm_2_3_4 fm_2_3_4 nd_2_3_4 rfl rfl rfl rfl rfl (Nat.le_of_ble_eq_true rfl) rm_4_3_4 ⟨by first | exact Nat.le_of_ble_eq_true rfl | exact Nat.zero_le _, by first | exact Nat.le_of_ble_eq_true rfl | exact Nat.zero_le _⟩ gX6_consider_0.2.2.1 (Keqr ?_)
  obtain ⟨o9, eo9⟩ : ∃ z9, z9 = RLO DY (DAYV td vd) kbversions := ⟨_, rfl⟩
  rcases o9 with _ | v9
  · refine eqi (x1 := (-1)) (congrArg LAT eo9.symm) ?_
    refine lv_istore_n (lv' := [(3, .int (-1)), (0, .ref h0), (1, .int (nI je)), (2, .int pp)]) hx hb gX6_consider_0.2.2.2.1 rfl hl (by decide) rfl (fun ls hl => ?_)
    refine lv_aload_n hx hb gX6_consider_0.2.2.2.2.1 rfl (lv_at1 hl) ?_
    refine lv_aload_n hx hb gX6_consider_0.2.2.2.2.2.1 rfl (lv_at1 hl) ?_
    refine gf_X6_18 hC rfl hK hP 0 rfl rfl gX6_consider_0.2.2.2.2.2.2.1 ?_
    refine gf_X6_42 hC rfl hK hP 2 rfl rfl gX6_consider_0.2.2.2.2.2.2.2.1 ?_
    refine lv_iload_n hx hb gX6_consider_0.2.2.2.2.2.2.2.2.1 rfl (lv_at0 hl) ?_
    refine lv_iconst (v := 1) hx hb gX6_consider_0.2.2.2.2.2.2.2.2.2 (by decide) ?_
    refine pV hC hK hl hP hD (c_T_at l G bversions (-1) 1 8 3 bversionsc kbversions fbversions (hkbversions) (by omega) (by omega)) si_X6_46 [3, 4] sm_3_4 fm_3_4 nd_3_4 rfl rfl rfl rfl rfl (Nat.le_of_ble_eq_true rfl) rm_4_1_3 ⟨by first | exact Nat.le_of_ble_eq_true rfl | exact Nat.zero_le _, by first | exact Nat.le_of_ble_eq_true rfl | exact Nat.zero_le _⟩ gX6_consider_1.1 (fun r3925 hr3925 => ?_)
    refine eqi (x1 := 0) (hr3925.trans tat_neg) ?_
    refine pf_X6_26 hC rfl hK hP hD hS 0 (ws' := [(h0, oX6 bb sg fc sh 0 rc rh), (fc, iA G 5 ffc), (bb, oX0 bpersons bpapers bstamps bversions blines bsteps bsayings bfindings bwarnings bquestions td vd vl gp), (bversions, oX8 8 3 bversionsc (nI kbversions)), (bversionsc, iA G 24 fbversions), (bpersons, oX8 10 2 bpersonsc (nI kbpersons)), (bpersonsc, iA G 20 fbpersons), (bpapers, oX8 12 6 bpapersc (nI kbpapers)), (bpapersc, iA G 72 fbpapers), (blines, oX8 72 7 blinesc (nI kblines)), (blinesc, iA G 504 fblines), (bsteps, oX8 960 1 bstepsc (nI kbsteps)), (bstepsc, iA G 960 fbsteps)]) rfl (Nat.le_of_ble_eq_true rfl) rfl rfl rfl gX6_consider_1.2.1 (fun H locs hP hD hS => ?_)
    refine lv_aload_n hx hb gX6_consider_1.2.2.1 rfl (lv_at1 hl) ?_
    refine lv_aload_n hx hb gX6_consider_1.2.2.2.1 rfl (lv_at1 hl) ?_
    refine gf_X6_18 hC rfl hK hP 0 rfl rfl gX6_consider_1.2.2.2.2.1 ?_
    refine gf_X6_42 hC rfl hK hP 2 rfl rfl gX6_consider_1.2.2.2.2.2.1 ?_
    refine lv_iload_n hx hb gX6_consider_1.2.2.2.2.2.2.1 rfl (lv_at0 hl) ?_
    refine lv_iconst (v := 2) hx hb gX6_consider_1.2.2.2.2.2.2.2.1 (by decide) ?_
    refine pV hC hK hl hP hD (c_T_at l G bversions (-1) 2 8 3 bversionsc kbversions fbversions (hkbversions) (by omega) (by omega)) si_X6_46 [3, 4] sm_3_4 fm_3_4 nd_3_4 rfl rfl rfl rfl rfl (Nat.le_of_ble_eq_true rfl) rm_4_1_3 ⟨by first | exact Nat.le_of_ble_eq_true rfl | exact Nat.zero_le _, by first | exact Nat.le_of_ble_eq_true rfl | exact Nat.zero_le _⟩ gX6_consider_1.2.2.2.2.2.2.2.2.1 (fun r3927 hr3927 => ?_)
    refine eqi (x1 := 0) (hr3927.trans tat_neg) ?_
    refine pf_X6_30 hC rfl hK hP hD hS 0 (ws' := [(h0, oX6 bb sg fc sh 0 0 rh), (fc, iA G 5 ffc), (bb, oX0 bpersons bpapers bstamps bversions blines bsteps bsayings bfindings bwarnings bquestions td vd vl gp), (bversions, oX8 8 3 bversionsc (nI kbversions)), (bversionsc, iA G 24 fbversions), (bpersons, oX8 10 2 bpersonsc (nI kbpersons)), (bpersonsc, iA G 20 fbpersons), (bpapers, oX8 12 6 bpapersc (nI kbpapers)), (bpapersc, iA G 72 fbpapers), (blines, oX8 72 7 blinesc (nI kblines)), (blinesc, iA G 504 fblines), (bsteps, oX8 960 1 bstepsc (nI kbsteps)), (bstepsc, iA G 960 fbsteps)]) rfl (Nat.le_of_ble_eq_true rfl) rfl rfl rfl gX6_consider_1.2.2.2.2.2.2.2.2.2 (fun H locs hP hD hS => ?_)
    refine lv_aload_n hx hb gX6_consider_2.1 rfl (lv_at1 hl) ?_
    refine gf_X6_9 hC rfl hK hP 0 rfl rfl gX6_consider_2.2.1 ?_
    refine lv_iconst (v := 0) hx hb gX6_consider_2.2.2.1 (by decide) ?_
    refine lv_iload_n hx hb gX6_consider_2.2.2.2.1 rfl (lv_at2 hl) ?_
    refine ast hC hK hP hD hS 1 (ws' := [(h0, oX6 bb sg fc sh 0 0 rh), (fc, iA G 5 (upd ffc 0 (nI je))), (bb, oX0 bpersons bpapers bstamps bversions blines bsteps bsayings bfindings bwarnings bquestions td vd vl gp), (bversions, oX8 8 3 bversionsc (nI kbversions)), (bversionsc, iA G 24 fbversions), (bpersons, oX8 10 2 bpersonsc (nI kbpersons)), (bpersonsc, iA G 20 fbpersons), (bpapers, oX8 12 6 bpapersc (nI kbpapers)), (bpapersc, iA G 72 fbpapers), (blines, oX8 72 7 blinesc (nI kblines)), (blinesc, iA G 504 fblines), (bsteps, oX8 960 1 bstepsc (nI kbsteps)), (bstepsc, iA G 960 fbsteps)]) rfl (vin (by decide +kernel)) (k := 0) (by decide +kernel) (rfl) gX6_consider_2.2.2.2.2.1 (fun H locs hP hD hS => ?_)
    refine lv_aload_n hx hb gX6_consider_2.2.2.2.2.2.1 rfl (lv_at1 hl) ?_
    refine gf_X6_9 hC rfl hK hP 0 rfl rfl gX6_consider_2.2.2.2.2.2.2.1 ?_
    refine lv_iconst (v := 1) hx hb gX6_consider_2.2.2.2.2.2.2.2.1 (by decide) ?_
    refine lv_aload_n hx hb gX6_consider_2.2.2.2.2.2.2.2.2.1 rfl (lv_at1 hl) ?_
    refine gf_X6_18 hC rfl hK hP 0 rfl rfl gX6_consider_2.2.2.2.2.2.2.2.2.2 ?_
    refine gf_X6_52 hC rfl hK hP 2 rfl rfl gX6_consider_3.1 ?_
    refine lv_iload_n hx hb gX6_consider_3.2.1 rfl (lv_at2 hl) ?_
    refine lv_iconst (v := 0) hx hb gX6_consider_3.2.2.1 (by decide) ?_
    refine pV hC hK hl hP hD (c_T_at l G bpersons (nI je) 0 10 2 bpersonsc kbpersons fbpersons (hkbpersons) (by omega) (by omega)) si_X6_46 [5, 6] sm_5_6 fm_5_6 nd_5_6 rfl rfl rfl rfl rfl (Nat.le_of_ble_eq_true rfl) rm_4_1_3 ⟨by first | exact Nat.le_of_ble_eq_true rfl | exact Nat.zero_le _, by first | exact Nat.le_of_ble_eq_true rfl | exact Nat.zero_le _⟩ gX6_consider_3.2.2.2.1 (fun r3929 hr3929 => ?_)
    refine eqi (x1 := fbpersons (je * 2 + 0)) (hr3929.trans (tatq (by omega) (by omega) (by decide) (by decide) rfl)) ?_
    refine ast hC hK hP hD hS 1 (ws' := [(h0, oX6 bb sg fc sh 0 0 rh), (fc, iA G 5 (upd (upd ffc 0 (nI je)) 1 (fbpersons (je * 2 + 0)))), (bb, oX0 bpersons bpapers bstamps bversions blines bsteps bsayings bfindings bwarnings bquestions td vd vl gp), (bversions, oX8 8 3 bversionsc (nI kbversions)), (bversionsc, iA G 24 fbversions), (bpersons, oX8 10 2 bpersonsc (nI kbpersons)), (bpersonsc, iA G 20 fbpersons), (bpapers, oX8 12 6 bpapersc (nI kbpapers)), (bpapersc, iA G 72 fbpapers), (blines, oX8 72 7 blinesc (nI kblines)), (blinesc, iA G 504 fblines), (bsteps, oX8 960 1 bstepsc (nI kbsteps)), (bstepsc, iA G 960 fbsteps)]) rfl (vin (by decide +kernel)) (k := 1) (by decide +kernel) (rfl) gX6_consider_3.2.2.2.2.1 (fun H locs hP hD hS => ?_)
    refine lv_aload_n hx hb gX6_consider_3.2.2.2.2.2.1 rfl (lv_at1 hl) ?_
    refine gf_X6_9 hC rfl hK hP 0 rfl rfl gX6_consider_3.2.2.2.2.2.2.1 ?_
    refine lv_iconst (v := 2) hx hb gX6_consider_3.2.2.2.2.2.2.2.1 (by decide) ?_
    refine lv_aload_n hx hb gX6_consider_3.2.2.2.2.2.2.2.2.1 rfl (lv_at1 hl) ?_
    refine gf_X6_18 hC rfl hK hP 0 rfl rfl gX6_consider_3.2.2.2.2.2.2.2.2.2 ?_
    refine lv_iload_n hx hb gX6_consider_4.1 rfl (lv_at2 hl) ?_
    refine lv_iload_n hx hb gX6_consider_4.2.1 rfl (lv_at3 hl) ?_
    refine pV hC hK hl hP hD (c_countToP l G bb je pp bpersons bpapers bstamps bversions blines bsteps bsayings bfindings bwarnings bquestions td vd vl gp bpapersc kbpapers fbpapers (hkbpapers) (by omega)) si_X6_55 [2, 7, 8] sm_2_7_8 fm_2_7_8 nd_2_7_8 rfl rfl rfl rfl rfl (Nat.le_of_ble_eq_true rfl) rm_4_3_5 ⟨by first | exact Nat.le_of_ble_eq_true rfl | exact Nat.zero_le _, by first | exact Nat.le_of_ble_eq_true rfl | exact Nat.zero_le _⟩ gX6_consider_4.2.2.1 (Keqr ?_)
    refine ast hC hK hP hD hS 1 (ws' := [(h0, oX6 bb sg fc sh 0 0 rh), (fc, iA G 5 (upd (upd (upd ffc 0 (nI je)) 1 (fbpersons (je * 2 + 0))) 2 (CNT (fun p9 => HB pp (nI p9) ∧ HB (fbpapers (p9 * 6 + 1)) (nI je)) kbpapers))), (bb, oX0 bpersons bpapers bstamps bversions blines bsteps bsayings bfindings bwarnings bquestions td vd vl gp), (bversions, oX8 8 3 bversionsc (nI kbversions)), (bversionsc, iA G 24 fbversions), (bpersons, oX8 10 2 bpersonsc (nI kbpersons)), (bpersonsc, iA G 20 fbpersons), (bpapers, oX8 12 6 bpapersc (nI kbpapers)), (bpapersc, iA G 72 fbpapers), (blines, oX8 72 7 blinesc (nI kblines)), (blinesc, iA G 504 fblines), (bsteps, oX8 960 1 bstepsc (nI kbsteps)), (bstepsc, iA G 960 fbsteps)]) rfl (vin (by decide +kernel)) (k := 2) (by decide +kernel) (rfl) gX6_consider_4.2.2.2.1 (fun H locs hP hD hS => ?_)
    refine lv_aload_n hx hb gX6_consider_4.2.2.2.2.1 rfl (lv_at1 hl) ?_
    refine gf_X6_9 hC rfl hK hP 0 rfl rfl gX6_consider_4.2.2.2.2.2.1 ?_
    refine lv_iconst (v := 3) hx hb gX6_consider_4.2.2.2.2.2.2.1 (by decide) ?_
    refine lv_aload_n hx hb gX6_consider_4.2.2.2.2.2.2.2.1 rfl (lv_at1 hl) ?_
    refine gf_X6_18 hC rfl hK hP 0 rfl rfl gX6_consider_4.2.2.2.2.2.2.2.2.1 ?_
    refine lv_iload_n hx hb gX6_consider_4.2.2.2.2.2.2.2.2.2 rfl (lv_at2 hl) ?_
    refine lv_iload_n hx hb gX6_consider_5.1 rfl (lv_at3 hl) ?_
    refine pV hC hK hl hP hD (c_countByP l G bb je pp bpersons bpapers bstamps bversions blines bsteps bsayings bfindings bwarnings bquestions td vd vl gp bpapersc kbpapers fbpapers (hkbpapers) (by omega)) si_X6_58 [2, 7, 8] sm_2_7_8 fm_2_7_8 nd_2_7_8 rfl rfl rfl rfl rfl (Nat.le_of_ble_eq_true rfl) rm_4_3_5 ⟨by first | exact Nat.le_of_ble_eq_true rfl | exact Nat.zero_le _, by first | exact Nat.le_of_ble_eq_true rfl | exact Nat.zero_le _⟩ gX6_consider_5.2.1 (Keqr ?_)
    refine ast hC hK hP hD hS 1 (ws' := [(h0, oX6 bb sg fc sh 0 0 rh), (fc, iA G 5 (upd (upd (upd (upd ffc 0 (nI je)) 1 (fbpersons (je * 2 + 0))) 2 (CNT (fun p9 => HB pp (nI p9) ∧ HB (fbpapers (p9 * 6 + 1)) (nI je)) kbpapers)) 3 (CNT (fun p9 => HB pp (nI p9) ∧ fbpapers (p9 * 6 + 0) = nI je) kbpapers))), (bb, oX0 bpersons bpapers bstamps bversions blines bsteps bsayings bfindings bwarnings bquestions td vd vl gp), (bversions, oX8 8 3 bversionsc (nI kbversions)), (bversionsc, iA G 24 fbversions), (bpersons, oX8 10 2 bpersonsc (nI kbpersons)), (bpersonsc, iA G 20 fbpersons), (bpapers, oX8 12 6 bpapersc (nI kbpapers)), (bpapersc, iA G 72 fbpapers), (blines, oX8 72 7 blinesc (nI kblines)), (blinesc, iA G 504 fblines), (bsteps, oX8 960 1 bstepsc (nI kbsteps)), (bstepsc, iA G 960 fbsteps)]) rfl (vin (by decide +kernel)) (k := 3) (by decide +kernel) (rfl) gX6_consider_5.2.2.1 (fun H locs hP hD hS => ?_)
    refine lv_aload_n hx hb gX6_consider_5.2.2.2.1 rfl (lv_at1 hl) ?_
    refine gf_X6_9 hC rfl hK hP 0 rfl rfl gX6_consider_5.2.2.2.2.1 ?_
    refine lv_iconst (v := 4) hx hb gX6_consider_5.2.2.2.2.2.1 (by decide) ?_
    refine lv_aload_n hx hb gX6_consider_5.2.2.2.2.2.2.1 rfl (lv_at1 hl) ?_
    refine gf_X6_18 hC rfl hK hP 0 rfl rfl gX6_consider_5.2.2.2.2.2.2.2.1 ?_
    refine gf_X6_52 hC rfl hK hP 2 rfl rfl gX6_consider_5.2.2.2.2.2.2.2.2.1 ?_
    refine lv_iload_n hx hb gX6_consider_5.2.2.2.2.2.2.2.2.2 rfl (lv_at2 hl) ?_
    refine lv_iconst (v := 1) hx hb gX6_consider_6.1 (by decide) ?_
    refine pV hC hK hl hP hD (c_T_at l G bpersons (nI je) 1 10 2 bpersonsc kbpersons fbpersons (hkbpersons) (by omega) (by omega)) si_X6_46 [5, 6] sm_5_6 fm_5_6 nd_5_6 rfl rfl rfl rfl rfl (Nat.le_of_ble_eq_true rfl) rm_4_1_3 ⟨by first | exact Nat.le_of_ble_eq_true rfl | exact Nat.zero_le _, by first | exact Nat.le_of_ble_eq_true rfl | exact Nat.zero_le _⟩ gX6_consider_6.2.1 (fun r3935 hr3935 => ?_)
    refine eqi (x1 := fbpersons (je * 2 + 1)) (hr3935.trans (tatq (by omega) (by omega) (by decide) (by decide) rfl)) ?_
    refine ast hC hK hP hD hS 1 (ws' := [(h0, oX6 bb sg fc sh 0 0 rh), (fc, iA G 5 (upd (upd (upd (upd (upd ffc 0 (nI je)) 1 (fbpersons (je * 2 + 0))) 2 (CNT (fun p9 => HB pp (nI p9) ∧ HB (fbpapers (p9 * 6 + 1)) (nI je)) kbpapers)) 3 (CNT (fun p9 => HB pp (nI p9) ∧ fbpapers (p9 * 6 + 0) = nI je) kbpapers)) 4 (fbpersons (je * 2 + 1)))), (bb, oX0 bpersons bpapers bstamps bversions blines bsteps bsayings bfindings bwarnings bquestions td vd vl gp), (bversions, oX8 8 3 bversionsc (nI kbversions)), (bversionsc, iA G 24 fbversions), (bpersons, oX8 10 2 bpersonsc (nI kbpersons)), (bpersonsc, iA G 20 fbpersons), (bpapers, oX8 12 6 bpapersc (nI kbpapers)), (bpapersc, iA G 72 fbpapers), (blines, oX8 72 7 blinesc (nI kblines)), (blinesc, iA G 504 fblines), (bsteps, oX8 960 1 bstepsc (nI kbsteps)), (bstepsc, iA G 960 fbsteps)]) rfl (vin (by decide +kernel)) (k := 4) (by decide +kernel) (rfl) gX6_consider_6.2.2.1 (fun H locs hP hD hS => ?_)
    refine lv_aload_n hx hb gX6_consider_6.2.2.2.1 rfl (lv_at1 hl) ?_
    refine lv_iconst (v := 0) hx hb gX6_consider_6.2.2.2.2.1 (by decide) ?_
    refine pf_X6_33 hC rfl hK hP hD hS 0 (ws' := [(h0, oX6 bb sg fc sh 0 0 0), (fc, iA G 5 (upd (upd (upd (upd (upd ffc 0 (nI je)) 1 (fbpersons (je * 2 + 0))) 2 (CNT (fun p9 => HB pp (nI p9) ∧ HB (fbpapers (p9 * 6 + 1)) (nI je)) kbpapers)) 3 (CNT (fun p9 => HB pp (nI p9) ∧ fbpapers (p9 * 6 + 0) = nI je) kbpapers)) 4 (fbpersons (je * 2 + 1)))), (bb, oX0 bpersons bpapers bstamps bversions blines bsteps bsayings bfindings bwarnings bquestions td vd vl gp), (bversions, oX8 8 3 bversionsc (nI kbversions)), (bversionsc, iA G 24 fbversions), (bpersons, oX8 10 2 bpersonsc (nI kbpersons)), (bpersonsc, iA G 20 fbpersons), (bpapers, oX8 12 6 bpapersc (nI kbpapers)), (bpapersc, iA G 72 fbpapers), (blines, oX8 72 7 blinesc (nI kblines)), (blinesc, iA G 504 fblines), (bsteps, oX8 960 1 bstepsc (nI kbsteps)), (bstepsc, iA G 960 fbsteps)]) rfl (Nat.le_of_ble_eq_true rfl) rfl rfl rfl gX6_consider_6.2.2.2.2.2.1 (fun H locs hP hD hS => ?_)
    refine lv_iconst (v := 0) hx hb gX6_consider_6.2.2.2.2.2.2.1 (by decide) ?_
    refine lv_istore (lv' := [(4, .int 0), (3, .int (-1)), (0, .ref h0), (1, .int (nI je)), (2, .int pp)]) hx hb gX6_consider_6.2.2.2.2.2.2.2.1 hl (by decide) rfl (fun ls hl => ?_)
    refine lv_iload hx hb gX6_consider_6.2.2.2.2.2.2.2.2.1 (lv_at0 hl) ?_
    refine lv_aload_n hx hb gX6_consider_6.2.2.2.2.2.2.2.2.2 rfl (lv_at2 hl) ?_
    refine gf_X6_30 hC rfl hK hP 0 rfl rfl gX6_consider_7.1 ?_
    refine lv_icmp_ge (tgt := 163) hx hb gX6_consider_7.2.1 (by decide) (fun _ => ?_) (fun c9 => absurd (by decide) c9)
    refine toQ hQ0 ?_
    exact RV hC hP hD hS [0, 1, 2, 3, 4, 5, 6, 7, 8, 9, 10, 11, 12] (0, 0, 0, upd (upd (upd (upd (upd ffc 0 (nI je)) 1 (fbpersons (je * 2 + 0))) 2 (CNT (fun p9 => HB pp (nI p9) ∧ HB (fbpapers (p9 * 6 + 1)) (nI je)) kbpapers)) 3 (CNT (fun p9 => HB pp (nI p9) ∧ fbpapers (p9 * 6 + 0) = nI je) kbpapers)) 4 (fbpersons (je * 2 + 1))) rfl rfl (by decide) (⟨congrArg (fun z9 => LVN z9 VL) eo9, RUP.mk0 eo9⟩) gX6_consider_8.2.2.2.2.2.2.2.2.2
  · have hv9 := LTS.lt _ _ eo9.symm
    obtain ⟨ed9, hl9, lo9, ea9, eb9, hlo9, hrow9⟩ := hVZ v9 hv9
    obtain ⟨n9, hn9⟩ : ∃ z9, z9 = (VL v9).length := ⟨_, rfl⟩
    rw [← hn9] at hl9 eb9 hlo9 hrow9
    refine eqi (x1 := nI v9) (congrArg LAT eo9.symm) ?_
    refine lv_istore_n (lv' := [(3, .int (nI v9)), (0, .ref h0), (1, .int (nI je)), (2, .int pp)]) hx hb gX6_consider_0.2.2.2.1 rfl hl (by decide) rfl (fun ls hl => ?_)
    refine lv_aload_n hx hb gX6_consider_0.2.2.2.2.1 rfl (lv_at1 hl) ?_
    refine lv_aload_n hx hb gX6_consider_0.2.2.2.2.2.1 rfl (lv_at1 hl) ?_
    refine gf_X6_18 hC rfl hK hP 0 rfl rfl gX6_consider_0.2.2.2.2.2.2.1 ?_
    refine gf_X6_42 hC rfl hK hP 2 rfl rfl gX6_consider_0.2.2.2.2.2.2.2.1 ?_
    refine lv_iload_n hx hb gX6_consider_0.2.2.2.2.2.2.2.2.1 rfl (lv_at0 hl) ?_
    refine lv_iconst (v := 1) hx hb gX6_consider_0.2.2.2.2.2.2.2.2.2 (by decide) ?_
    refine pV hC hK hl hP hD (c_T_at l G bversions (nI v9) 1 8 3 bversionsc kbversions fbversions (hkbversions) (by omega) (by omega)) si_X6_46 [3, 4] sm_3_4 fm_3_4 nd_3_4 rfl rfl rfl rfl rfl (Nat.le_of_ble_eq_true rfl) rm_4_1_3 ⟨by first | exact Nat.le_of_ble_eq_true rfl | exact Nat.zero_le _, by first | exact Nat.le_of_ble_eq_true rfl | exact Nat.zero_le _⟩ gX6_consider_1.1 (fun r3937 hr3937 => ?_)
    refine eqi (x1 := nI lo9) ((hr3937.trans (tatq (by omega) (by omega) (by decide) (by decide) rfl)).trans (ea9)) ?_
    refine pf_X6_26 hC rfl hK hP hD hS 0 (ws' := [(h0, oX6 bb sg fc sh (nI lo9) rc rh), (fc, iA G 5 ffc), (bb, oX0 bpersons bpapers bstamps bversions blines bsteps bsayings bfindings bwarnings bquestions td vd vl gp), (bversions, oX8 8 3 bversionsc (nI kbversions)), (bversionsc, iA G 24 fbversions), (bpersons, oX8 10 2 bpersonsc (nI kbpersons)), (bpersonsc, iA G 20 fbpersons), (bpapers, oX8 12 6 bpapersc (nI kbpapers)), (bpapersc, iA G 72 fbpapers), (blines, oX8 72 7 blinesc (nI kblines)), (blinesc, iA G 504 fblines), (bsteps, oX8 960 1 bstepsc (nI kbsteps)), (bstepsc, iA G 960 fbsteps)]) rfl (Nat.le_of_ble_eq_true rfl) rfl rfl rfl gX6_consider_1.2.1 (fun H locs hP hD hS => ?_)
    refine lv_aload_n hx hb gX6_consider_1.2.2.1 rfl (lv_at1 hl) ?_
    refine lv_aload_n hx hb gX6_consider_1.2.2.2.1 rfl (lv_at1 hl) ?_
    refine gf_X6_18 hC rfl hK hP 0 rfl rfl gX6_consider_1.2.2.2.2.1 ?_
    refine gf_X6_42 hC rfl hK hP 2 rfl rfl gX6_consider_1.2.2.2.2.2.1 ?_
    refine lv_iload_n hx hb gX6_consider_1.2.2.2.2.2.2.1 rfl (lv_at0 hl) ?_
    refine lv_iconst (v := 2) hx hb gX6_consider_1.2.2.2.2.2.2.2.1 (by decide) ?_
    refine pV hC hK hl hP hD (c_T_at l G bversions (nI v9) 2 8 3 bversionsc kbversions fbversions (hkbversions) (by omega) (by omega)) si_X6_46 [3, 4] sm_3_4 fm_3_4 nd_3_4 rfl rfl rfl rfl rfl (Nat.le_of_ble_eq_true rfl) rm_4_1_3 ⟨by first | exact Nat.le_of_ble_eq_true rfl | exact Nat.zero_le _, by first | exact Nat.le_of_ble_eq_true rfl | exact Nat.zero_le _⟩ gX6_consider_1.2.2.2.2.2.2.2.2.1 (fun r3939 hr3939 => ?_)
    refine eqi (x1 := nI n9) ((hr3939.trans (tatq (by omega) (by omega) (by decide) (by decide) rfl)).trans (eb9)) ?_
    refine pf_X6_30 hC rfl hK hP hD hS 0 (ws' := [(h0, oX6 bb sg fc sh (nI lo9) (nI n9) rh), (fc, iA G 5 ffc), (bb, oX0 bpersons bpapers bstamps bversions blines bsteps bsayings bfindings bwarnings bquestions td vd vl gp), (bversions, oX8 8 3 bversionsc (nI kbversions)), (bversionsc, iA G 24 fbversions), (bpersons, oX8 10 2 bpersonsc (nI kbpersons)), (bpersonsc, iA G 20 fbpersons), (bpapers, oX8 12 6 bpapersc (nI kbpapers)), (bpapersc, iA G 72 fbpapers), (blines, oX8 72 7 blinesc (nI kblines)), (blinesc, iA G 504 fblines), (bsteps, oX8 960 1 bstepsc (nI kbsteps)), (bstepsc, iA G 960 fbsteps)]) rfl (Nat.le_of_ble_eq_true rfl) rfl rfl rfl gX6_consider_1.2.2.2.2.2.2.2.2.2 (fun H locs hP hD hS => ?_)
    refine lv_aload_n hx hb gX6_consider_2.1 rfl (lv_at1 hl) ?_
    refine gf_X6_9 hC rfl hK hP 0 rfl rfl gX6_consider_2.2.1 ?_
    refine lv_iconst (v := 0) hx hb gX6_consider_2.2.2.1 (by decide) ?_
    refine lv_iload_n hx hb gX6_consider_2.2.2.2.1 rfl (lv_at2 hl) ?_
    refine ast hC hK hP hD hS 1 (ws' := [(h0, oX6 bb sg fc sh (nI lo9) (nI n9) rh), (fc, iA G 5 (upd ffc 0 (nI je))), (bb, oX0 bpersons bpapers bstamps bversions blines bsteps bsayings bfindings bwarnings bquestions td vd vl gp), (bversions, oX8 8 3 bversionsc (nI kbversions)), (bversionsc, iA G 24 fbversions), (bpersons, oX8 10 2 bpersonsc (nI kbpersons)), (bpersonsc, iA G 20 fbpersons), (bpapers, oX8 12 6 bpapersc (nI kbpapers)), (bpapersc, iA G 72 fbpapers), (blines, oX8 72 7 blinesc (nI kblines)), (blinesc, iA G 504 fblines), (bsteps, oX8 960 1 bstepsc (nI kbsteps)), (bstepsc, iA G 960 fbsteps)]) rfl (vin (by decide +kernel)) (k := 0) (by decide +kernel) (rfl) gX6_consider_2.2.2.2.2.1 (fun H locs hP hD hS => ?_)
    refine lv_aload_n hx hb gX6_consider_2.2.2.2.2.2.1 rfl (lv_at1 hl) ?_
    refine gf_X6_9 hC rfl hK hP 0 rfl rfl gX6_consider_2.2.2.2.2.2.2.1 ?_
    refine lv_iconst (v := 1) hx hb gX6_consider_2.2.2.2.2.2.2.2.1 (by decide) ?_
    refine lv_aload_n hx hb gX6_consider_2.2.2.2.2.2.2.2.2.1 rfl (lv_at1 hl) ?_
    refine gf_X6_18 hC rfl hK hP 0 rfl rfl gX6_consider_2.2.2.2.2.2.2.2.2.2 ?_
    refine gf_X6_52 hC rfl hK hP 2 rfl rfl gX6_consider_3.1 ?_
    refine lv_iload_n hx hb gX6_consider_3.2.1 rfl (lv_at2 hl) ?_
    refine lv_iconst (v := 0) hx hb gX6_consider_3.2.2.1 (by decide) ?_
    refine pV hC hK hl hP hD (c_T_at l G bpersons (nI je) 0 10 2 bpersonsc kbpersons fbpersons (hkbpersons) (by omega) (by omega)) si_X6_46 [5, 6] sm_5_6 fm_5_6 nd_5_6 rfl rfl rfl rfl rfl (Nat.le_of_ble_eq_true rfl) rm_4_1_3 ⟨by first | exact Nat.le_of_ble_eq_true rfl | exact Nat.zero_le _, by first | exact Nat.le_of_ble_eq_true rfl | exact Nat.zero_le _⟩ gX6_consider_3.2.2.2.1 (fun r3941 hr3941 => ?_)
    refine eqi (x1 := fbpersons (je * 2 + 0)) (hr3941.trans (tatq (by omega) (by omega) (by decide) (by decide) rfl)) ?_
    refine ast hC hK hP hD hS 1 (ws' := [(h0, oX6 bb sg fc sh (nI lo9) (nI n9) rh), (fc, iA G 5 (upd (upd ffc 0 (nI je)) 1 (fbpersons (je * 2 + 0)))), (bb, oX0 bpersons bpapers bstamps bversions blines bsteps bsayings bfindings bwarnings bquestions td vd vl gp), (bversions, oX8 8 3 bversionsc (nI kbversions)), (bversionsc, iA G 24 fbversions), (bpersons, oX8 10 2 bpersonsc (nI kbpersons)), (bpersonsc, iA G 20 fbpersons), (bpapers, oX8 12 6 bpapersc (nI kbpapers)), (bpapersc, iA G 72 fbpapers), (blines, oX8 72 7 blinesc (nI kblines)), (blinesc, iA G 504 fblines), (bsteps, oX8 960 1 bstepsc (nI kbsteps)), (bstepsc, iA G 960 fbsteps)]) rfl (vin (by decide +kernel)) (k := 1) (by decide +kernel) (rfl) gX6_consider_3.2.2.2.2.1 (fun H locs hP hD hS => ?_)
    refine lv_aload_n hx hb gX6_consider_3.2.2.2.2.2.1 rfl (lv_at1 hl) ?_
    refine gf_X6_9 hC rfl hK hP 0 rfl rfl gX6_consider_3.2.2.2.2.2.2.1 ?_
    refine lv_iconst (v := 2) hx hb gX6_consider_3.2.2.2.2.2.2.2.1 (by decide) ?_
    refine lv_aload_n hx hb gX6_consider_3.2.2.2.2.2.2.2.2.1 rfl (lv_at1 hl) ?_
    refine gf_X6_18 hC rfl hK hP 0 rfl rfl gX6_consider_3.2.2.2.2.2.2.2.2.2 ?_
    refine lv_iload_n hx hb gX6_consider_4.1 rfl (lv_at2 hl) ?_
    refine lv_iload_n hx hb gX6_consider_4.2.1 rfl (lv_at3 hl) ?_
    refine pV hC hK hl hP hD (c_countToP l G bb je pp bpersons bpapers bstamps bversions blines bsteps bsayings bfindings bwarnings bquestions td vd vl gp bpapersc kbpapers fbpapers (hkbpapers) (by omega)) si_X6_55 [2, 7, 8] sm_2_7_8 fm_2_7_8 nd_2_7_8 rfl rfl rfl rfl rfl (Nat.le_of_ble_eq_true rfl) rm_4_3_5 ⟨by first | exact Nat.le_of_ble_eq_true rfl | exact Nat.zero_le _, by first | exact Nat.le_of_ble_eq_true rfl | exact Nat.zero_le _⟩ gX6_consider_4.2.2.1 (Keqr ?_)
    refine ast hC hK hP hD hS 1 (ws' := [(h0, oX6 bb sg fc sh (nI lo9) (nI n9) rh), (fc, iA G 5 (upd (upd (upd ffc 0 (nI je)) 1 (fbpersons (je * 2 + 0))) 2 (CNT (fun p9 => HB pp (nI p9) ∧ HB (fbpapers (p9 * 6 + 1)) (nI je)) kbpapers))), (bb, oX0 bpersons bpapers bstamps bversions blines bsteps bsayings bfindings bwarnings bquestions td vd vl gp), (bversions, oX8 8 3 bversionsc (nI kbversions)), (bversionsc, iA G 24 fbversions), (bpersons, oX8 10 2 bpersonsc (nI kbpersons)), (bpersonsc, iA G 20 fbpersons), (bpapers, oX8 12 6 bpapersc (nI kbpapers)), (bpapersc, iA G 72 fbpapers), (blines, oX8 72 7 blinesc (nI kblines)), (blinesc, iA G 504 fblines), (bsteps, oX8 960 1 bstepsc (nI kbsteps)), (bstepsc, iA G 960 fbsteps)]) rfl (vin (by decide +kernel)) (k := 2) (by decide +kernel) (rfl) gX6_consider_4.2.2.2.1 (fun H locs hP hD hS => ?_)
    refine lv_aload_n hx hb gX6_consider_4.2.2.2.2.1 rfl (lv_at1 hl) ?_
    refine gf_X6_9 hC rfl hK hP 0 rfl rfl gX6_consider_4.2.2.2.2.2.1 ?_
    refine lv_iconst (v := 3) hx hb gX6_consider_4.2.2.2.2.2.2.1 (by decide) ?_
    refine lv_aload_n hx hb gX6_consider_4.2.2.2.2.2.2.2.1 rfl (lv_at1 hl) ?_
    refine gf_X6_18 hC rfl hK hP 0 rfl rfl gX6_consider_4.2.2.2.2.2.2.2.2.1 ?_
    refine lv_iload_n hx hb gX6_consider_4.2.2.2.2.2.2.2.2.2 rfl (lv_at2 hl) ?_
    refine lv_iload_n hx hb gX6_consider_5.1 rfl (lv_at3 hl) ?_
    refine pV hC hK hl hP hD (c_countByP l G bb je pp bpersons bpapers bstamps bversions blines bsteps bsayings bfindings bwarnings bquestions td vd vl gp bpapersc kbpapers fbpapers (hkbpapers) (by omega)) si_X6_58 [2, 7, 8] sm_2_7_8 fm_2_7_8 nd_2_7_8 rfl rfl rfl rfl rfl (Nat.le_of_ble_eq_true rfl) rm_4_3_5 ⟨by first | exact Nat.le_of_ble_eq_true rfl | exact Nat.zero_le _, by first | exact Nat.le_of_ble_eq_true rfl | exact Nat.zero_le _⟩ gX6_consider_5.2.1 (Keqr ?_)
    refine ast hC hK hP hD hS 1 (ws' := [(h0, oX6 bb sg fc sh (nI lo9) (nI n9) rh), (fc, iA G 5 (upd (upd (upd (upd ffc 0 (nI je)) 1 (fbpersons (je * 2 + 0))) 2 (CNT (fun p9 => HB pp (nI p9) ∧ HB (fbpapers (p9 * 6 + 1)) (nI je)) kbpapers)) 3 (CNT (fun p9 => HB pp (nI p9) ∧ fbpapers (p9 * 6 + 0) = nI je) kbpapers))), (bb, oX0 bpersons bpapers bstamps bversions blines bsteps bsayings bfindings bwarnings bquestions td vd vl gp), (bversions, oX8 8 3 bversionsc (nI kbversions)), (bversionsc, iA G 24 fbversions), (bpersons, oX8 10 2 bpersonsc (nI kbpersons)), (bpersonsc, iA G 20 fbpersons), (bpapers, oX8 12 6 bpapersc (nI kbpapers)), (bpapersc, iA G 72 fbpapers), (blines, oX8 72 7 blinesc (nI kblines)), (blinesc, iA G 504 fblines), (bsteps, oX8 960 1 bstepsc (nI kbsteps)), (bstepsc, iA G 960 fbsteps)]) rfl (vin (by decide +kernel)) (k := 3) (by decide +kernel) (rfl) gX6_consider_5.2.2.1 (fun H locs hP hD hS => ?_)
    refine lv_aload_n hx hb gX6_consider_5.2.2.2.1 rfl (lv_at1 hl) ?_
    refine gf_X6_9 hC rfl hK hP 0 rfl rfl gX6_consider_5.2.2.2.2.1 ?_
    refine lv_iconst (v := 4) hx hb gX6_consider_5.2.2.2.2.2.1 (by decide) ?_
    refine lv_aload_n hx hb gX6_consider_5.2.2.2.2.2.2.1 rfl (lv_at1 hl) ?_
    refine gf_X6_18 hC rfl hK hP 0 rfl rfl gX6_consider_5.2.2.2.2.2.2.2.1 ?_
    refine gf_X6_52 hC rfl hK hP 2 rfl rfl gX6_consider_5.2.2.2.2.2.2.2.2.1 ?_
    refine lv_iload_n hx hb gX6_consider_5.2.2.2.2.2.2.2.2.2 rfl (lv_at2 hl) ?_
    refine lv_iconst (v := 1) hx hb gX6_consider_6.1 (by decide) ?_
    refine pV hC hK hl hP hD (c_T_at l G bpersons (nI je) 1 10 2 bpersonsc kbpersons fbpersons (hkbpersons) (by omega) (by omega)) si_X6_46 [5, 6] sm_5_6 fm_5_6 nd_5_6 rfl rfl rfl rfl rfl (Nat.le_of_ble_eq_true rfl) rm_4_1_3 ⟨by first | exact Nat.le_of_ble_eq_true rfl | exact Nat.zero_le _, by first | exact Nat.le_of_ble_eq_true rfl | exact Nat.zero_le _⟩ gX6_consider_6.2.1 (fun r3947 hr3947 => ?_)
    refine eqi (x1 := fbpersons (je * 2 + 1)) (hr3947.trans (tatq (by omega) (by omega) (by decide) (by decide) rfl)) ?_
    refine ast hC hK hP hD hS 1 (ws' := [(h0, oX6 bb sg fc sh (nI lo9) (nI n9) rh), (fc, iA G 5 (upd (upd (upd (upd (upd ffc 0 (nI je)) 1 (fbpersons (je * 2 + 0))) 2 (CNT (fun p9 => HB pp (nI p9) ∧ HB (fbpapers (p9 * 6 + 1)) (nI je)) kbpapers)) 3 (CNT (fun p9 => HB pp (nI p9) ∧ fbpapers (p9 * 6 + 0) = nI je) kbpapers)) 4 (fbpersons (je * 2 + 1)))), (bb, oX0 bpersons bpapers bstamps bversions blines bsteps bsayings bfindings bwarnings bquestions td vd vl gp), (bversions, oX8 8 3 bversionsc (nI kbversions)), (bversionsc, iA G 24 fbversions), (bpersons, oX8 10 2 bpersonsc (nI kbpersons)), (bpersonsc, iA G 20 fbpersons), (bpapers, oX8 12 6 bpapersc (nI kbpapers)), (bpapersc, iA G 72 fbpapers), (blines, oX8 72 7 blinesc (nI kblines)), (blinesc, iA G 504 fblines), (bsteps, oX8 960 1 bstepsc (nI kbsteps)), (bstepsc, iA G 960 fbsteps)]) rfl (vin (by decide +kernel)) (k := 4) (by decide +kernel) (rfl) gX6_consider_6.2.2.1 (fun H locs hP hD hS => ?_)
    refine lv_aload_n hx hb gX6_consider_6.2.2.2.1 rfl (lv_at1 hl) ?_
    refine lv_iconst (v := 0) hx hb gX6_consider_6.2.2.2.2.1 (by decide) ?_
    refine pf_X6_33 hC rfl hK hP hD hS 0 (ws' := [(h0, oX6 bb sg fc sh (nI lo9) (nI n9) 0), (fc, iA G 5 (upd (upd (upd (upd (upd ffc 0 (nI je)) 1 (fbpersons (je * 2 + 0))) 2 (CNT (fun p9 => HB pp (nI p9) ∧ HB (fbpapers (p9 * 6 + 1)) (nI je)) kbpapers)) 3 (CNT (fun p9 => HB pp (nI p9) ∧ fbpapers (p9 * 6 + 0) = nI je) kbpapers)) 4 (fbpersons (je * 2 + 1)))), (bb, oX0 bpersons bpapers bstamps bversions blines bsteps bsayings bfindings bwarnings bquestions td vd vl gp), (bversions, oX8 8 3 bversionsc (nI kbversions)), (bversionsc, iA G 24 fbversions), (bpersons, oX8 10 2 bpersonsc (nI kbpersons)), (bpersonsc, iA G 20 fbpersons), (bpapers, oX8 12 6 bpapersc (nI kbpapers)), (bpapersc, iA G 72 fbpapers), (blines, oX8 72 7 blinesc (nI kblines)), (blinesc, iA G 504 fblines), (bsteps, oX8 960 1 bstepsc (nI kbsteps)), (bstepsc, iA G 960 fbsteps)]) rfl (Nat.le_of_ble_eq_true rfl) rfl rfl rfl gX6_consider_6.2.2.2.2.2.1 (fun H locs hP hD hS => ?_)
    refine lv_iconst (v := 0) hx hb gX6_consider_6.2.2.2.2.2.2.1 (by decide) ?_
    refine lv_istore (lv' := [(4, .int 0), (3, .int (nI v9)), (0, .ref h0), (1, .int (nI je)), (2, .int pp)]) hx hb gX6_consider_6.2.2.2.2.2.2.2.1 hl (by decide) rfl (fun ls hl => ?_)
    have keyP : ∀ (nP kP : Nat) (wh : Int32) (vfc : Nat → Int32) (H : Heap) (locs : List Loc) (ls : Array Slot), kP + nP = n9 → (∀ k9, k9 < 5 → vfc k9 = (FAX fbpersons fbpapers (VPP pp) kbpapers je) k9) → (wh = IMB (fun i9 => PLN vfc (VC v9 i9) 1 % 2 = 1) kP) → va_PD G A [(h0, oX6 bb sg fc sh (nI lo9) (nI n9) wh), (fc, iA G 5 vfc), (bb, oX0 bpersons bpapers bstamps bversions blines bsteps bsayings bfindings bwarnings bquestions td vd vl gp), (bversions, oX8 8 3 bversionsc (nI kbversions)), (bversionsc, iA G 24 fbversions), (bpersons, oX8 10 2 bpersonsc (nI kbpersons)), (bpersonsc, iA G 20 fbpersons), (bpapers, oX8 12 6 bpapersc (nI kbpapers)), (bpapersc, iA G 72 fbpapers), (blines, oX8 72 7 blinesc (nI kblines)), (blinesc, iA G 504 fblines), (bsteps, oX8 960 1 bstepsc (nI kbsteps)), (bstepsc, iA G 960 fbsteps)] H → va_S A s.heap H locs → lv_has ls 5 [(4, .int (nI kP)), (3, .int (nI v9)), (0, .ref h0), (1, .int (nI je)), (2, .int pp)] → W p l e (RM 4 0 0) s m ([.ref h0, .int (nI je), .int pp] : List Value).toArray below meth c H locs 0 0 Q0 (F0 m 121 ls []) := by
      intro nP
      induction nP with
      | zero =>
        intro kP wh vfc H locs ls hkP hfa hwh hPD hS hl
        refine Kan2 hPD (fun hP hD => ?_)
        obtain rfl : n9 = kP := by omega
        have hl : lv_has ls 5 [(4, .int (nI n9)), (3, .int (nI v9)), (0, .ref h0), (1, .int (nI je)), (2, .int pp)] := hl
        refine lv_iload hx hb gX6_consider_6.2.2.2.2.2.2.2.2.1 (lv_at0 hl) ?_
        refine lv_aload_n hx hb gX6_consider_6.2.2.2.2.2.2.2.2.2 rfl (lv_at2 hl) ?_
        refine gf_X6_30 hC rfl hK hP 0 rfl rfl gX6_consider_7.1 ?_
        refine lv_icmp_ge (tgt := 163) hx hb gX6_consider_7.2.1 (by decide) (fun _ => ?_) (fun c9 => absurd (Int32.le_refl _) c9)
        refine toQ hQ0 ?_
        exact RV hC hP hD hS [0, 1, 2, 3, 4, 5, 6, 7, 8, 9, 10, 11, 12] (nI lo9, n9, wh, vfc) rfl rfl (by decide) (⟨hn9.trans (congrArg (fun z9 => LVN z9 VL) eo9), RUP.mk1 eo9 hVZ hv9 ea9 (by omega) hn9 hfa hwh (by omega)⟩) gX6_consider_8.2.2.2.2.2.2.2.2.2
      | succ nP ihP =>
        intro kP wh vfc H locs ls hkP hfa hwh hPD hS hl
        refine Kan2 hPD (fun hP hD => ?_)
        refine lv_iload hx hb gX6_consider_6.2.2.2.2.2.2.2.2.1 (lv_at0 hl) ?_
        refine lv_aload_n hx hb gX6_consider_6.2.2.2.2.2.2.2.2.2 rfl (lv_at2 hl) ?_
        refine gf_X6_30 hC rfl hK hP 0 rfl rfl gX6_consider_7.1 ?_
        refine lv_icmp_ge (tgt := 163) hx hb gX6_consider_7.2.1 (by decide) (fun c9 => absurd c9 (nI_ge (a := kP) (b := n9) (by omega) (by omega))) (fun _ => ?_)
        have hsg9 := (hrow9 kP (by omega)).hsg
        refine lv_aload_n hx hb gX6_consider_7.2.2.1 rfl (lv_at2 hl) ?_
        refine lv_aload_n hx hb gX6_consider_7.2.2.2.1 rfl (lv_at2 hl) ?_
        refine gf_X6_26 hC rfl hK hP 0 rfl rfl gX6_consider_7.2.2.2.2.1 ?_
        refine lv_iload hx hb gX6_consider_7.2.2.2.2.2.1 (lv_at0 hl) ?_
        refine lv_iadd hx hb gX6_consider_7.2.2.2.2.2.2.1 ?_
        refine eqi (x1 := nI (lo9 + kP)) (nI_add lo9 kP) ?_
        refine pV hC hK hl hP hD (c_holdsX l G h0 (lo9 + kP) (VC v9 kP) bb sg fc sh (nI lo9) (nI n9) wh vfc bpersons bpapers bstamps bversions blines bsteps bsayings bfindings bwarnings bquestions td vd vl gp blinesc kblines fblines bstepsc kbsteps fbsteps (hkblines) (hkbsteps) (hsg9) (by omega)) si_X6_61 [0, 1, 2, 9, 10, 11, 12] sm_0_1_2_9_10_11_12 fm_0_1_2_9_10_11_12 nd_0_1_2_9_10_11_12 rfl rfl rfl rfl rfl (Nat.le_of_ble_eq_true rfl) rm_4_3_8 ⟨by first | exact Nat.le_of_ble_eq_true rfl | exact Nat.zero_le _, by first | exact Nat.le_of_ble_eq_true rfl | exact Nat.zero_le _⟩ gX6_consider_7.2.2.2.2.2.2.2.1 (Kors (Keqa fun a3950 => ?_) (Keqa fun a3950 => ?_))
        · refine lv_if_eq (tgt := 157) hx hb gX6_consider_7.2.2.2.2.2.2.2.2.1 (by decide) (fun c9 => absurd c9 (by decide)) (fun _ => ?_)
          refine lv_aload_n hx hb gX6_consider_7.2.2.2.2.2.2.2.2.2 rfl (lv_at2 hl) ?_
          refine lv_dup hx hb gX6_consider_8.1 rfl ?_
          refine gf_X6_33 hC rfl hK hP 0 rfl rfl gX6_consider_8.2.1 ?_
          refine lv_iconst (v := 1) hx hb gX6_consider_8.2.2.1 (by decide) ?_
          refine lv_iload hx hb gX6_consider_8.2.2.2.1 (lv_at0 hl) ?_
          refine lv_ishl hx hb gX6_consider_8.2.2.2.2.1 ?_
          refine lv_ior hx hb gX6_consider_8.2.2.2.2.2.1 ?_
          refine pf_X6_33 hC rfl hK hP hD hS 0 (ws' := [(h0, oX6 bb sg fc sh (nI lo9) (nI n9) (wh ||| (1 <<< ((nI kP) &&& 31)))), (fc, iA G 5 vfc), (bb, oX0 bpersons bpapers bstamps bversions blines bsteps bsayings bfindings bwarnings bquestions td vd vl gp), (bversions, oX8 8 3 bversionsc (nI kbversions)), (bversionsc, iA G 24 fbversions), (bpersons, oX8 10 2 bpersonsc (nI kbpersons)), (bpersonsc, iA G 20 fbpersons), (bpapers, oX8 12 6 bpapersc (nI kbpapers)), (bpapersc, iA G 72 fbpapers), (blines, oX8 72 7 blinesc (nI kblines)), (blinesc, iA G 504 fblines), (bsteps, oX8 960 1 bstepsc (nI kbsteps)), (bstepsc, iA G 960 fbsteps)]) rfl (Nat.le_of_ble_eq_true rfl) rfl rfl rfl gX6_consider_8.2.2.2.2.2.2.1 (fun H locs hP hD hS => ?_)
          refine lv_iinc (v := nI (kP + 1)) (lv' := [(4, .int (nI (kP + 1))), (3, .int (nI v9)), (0, .ref h0), (1, .int (nI je)), (2, .int pp)]) hx hb gX6_consider_8.2.2.2.2.2.2.2.1 hl (k := 0) rfl (nI_1 _) (by decide) rfl (fun ls hl => ?_)
          refine lv_goto (tgt := 121) hx hb gX6_consider_8.2.2.2.2.2.2.2.2.1 (by decide) ?_
          have hst8 : wh ||| (1 <<< ((nI kP) &&& 31)) = IMB (fun i9 => PLN vfc (VC v9 i9) 1 % 2 = 1) (kP + 1) := IMB.y hwh a3950
          exact ihP (kP + 1) (wh ||| (1 <<< ((nI kP) &&& 31))) vfc _ _ _ (by omega) (by first | assumption | exact Or.inl rfl | exact Or.inr rfl | exact FAX.mk | exact rfl) (by first | assumption | exact Or.inl rfl | exact Or.inr rfl | exact FAX.mk | exact rfl) (And.intro hP hD) hS (lv_sub hl [0, 1, 2, 3, 4] rfl)
        · refine lv_if_eq (tgt := 157) hx hb gX6_consider_7.2.2.2.2.2.2.2.2.1 (by decide) (fun _ => ?_) (fun c9 => absurd (by decide) c9)
          refine lv_iinc (v := nI (kP + 1)) (lv' := [(4, .int (nI (kP + 1))), (3, .int (nI v9)), (0, .ref h0), (1, .int (nI je)), (2, .int pp)]) hx hb gX6_consider_8.2.2.2.2.2.2.2.1 hl (k := 0) rfl (nI_1 _) (by decide) rfl (fun ls hl => ?_)
          refine lv_goto (tgt := 121) hx hb gX6_consider_8.2.2.2.2.2.2.2.2.1 (by decide) ?_
          have hst8 : wh = IMB (fun i9 => PLN vfc (VC v9 i9) 1 % 2 = 1) (kP + 1) := IMB.n hwh a3950
          exact ihP (kP + 1) wh vfc _ _ _ (by omega) (by first | assumption | exact Or.inl rfl | exact Or.inr rfl | exact FAX.mk | exact rfl) (by first | assumption | exact Or.inl rfl | exact Or.inr rfl | exact FAX.mk | exact rfl) (And.intro hP hD) hS (lv_sub hl [0, 1, 2, 3, 4] rfl)
    exact keyP n9 0 0 (upd (upd (upd (upd (upd ffc 0 (nI je)) 1 (fbpersons (je * 2 + 0))) 2 (CNT (fun p9 => HB pp (nI p9) ∧ HB (fbpapers (p9 * 6 + 1)) (nI je)) kbpapers)) 3 (CNT (fun p9 => HB pp (nI p9) ∧ fbpapers (p9 * 6 + 0) = nI je) kbpapers)) 4 (fbpersons (je * 2 + 1))) _ _ _ (by omega) (by first | assumption | exact Or.inl rfl | exact Or.inr rfl | exact FAX.mk | exact rfl) (by first | assumption | exact Or.inl rfl | exact Or.inr rfl | exact FAX.mk | exact rfl) (And.intro hP hD) hS (lv_sub hl [0, 1, 2, 3, 4] rfl)
def K_c_shouldHourX (l : Launch) (G : GG) (h0 : Nat) (jt : Nat) (bb : Nat) (sg : Nat) (fc : Nat) (sh : Nat) (r1 : Int32) (rc : Int32) (rh : Int32) (fsh : Nat → Int32) : Prop := MP l G yX6_shouldHour cX6_shouldHour 2 (some .int) 1 [.ref h0, .int (nI jt)] [(h0, oX6 bb sg fc sh r1 rc rh), (sh, iA G 8 fsh)] (fun r : Int32 => r = (fsh jt))
set_option maxHeartbeats 4000000 in
set_option maxRecDepth 100000 in
theorem c_shouldHourX (l : Launch) (G : GG) (h0 : Nat) (jt : Nat) (bb : Nat) (sg : Nat) (fc : Nat) (sh : Nat) (r1 : Int32) (rc : Int32) (rh : Int32) (fsh : Nat → Int32) (hjt : jt < 8) : K_c_shouldHourX l G h0 jt bb sg fc sh r1 rc rh fsh := by
  refine MP.start (by decide +kernel) (Nat.le_of_ble_eq_true rfl) ?_
  intro p e s m below meth c ls hC hK hP hD hl
  refine absQ (fun Q0 hQ0 => ?_)
  have hl : lv_has ls 2 [(0, .ref h0), (1, .int (nI jt))] := hl
  refine Kan8 hC (fun hx hb hr hml hB hown hlocks hnm => ?_)
  refine lv_iload_n hx hb gX6_shouldHour_0.1 rfl (lv_at1 hl) ?_
  refine lv_if_lt (tgt := 19) hx hb gX6_shouldHour_0.2.1 (by decide) (fun c9 => absurd c9 (nI_pos (by omega))) (fun _ => ?_)
  refine lv_iload_n hx hb gX6_shouldHour_0.2.2.1 rfl (lv_at1 hl) ?_
  refine lv_bipush (v := 8) hx hb gX6_shouldHour_0.2.2.2.1 (by decide) ?_
  refine lv_icmp_ge (tgt := 19) hx hb gX6_shouldHour_0.2.2.2.2.1 (by decide) (fun c9 => absurd c9 (nI_ge (a := jt) (b := 8) (by omega) (by omega))) (fun _ => ?_)
  refine lv_aload_n hx hb gX6_shouldHour_0.2.2.2.2.2.1 rfl (lv_at0 hl) ?_
  refine gf_X6_15 hC rfl hK hP 0 rfl rfl gX6_shouldHour_0.2.2.2.2.2.2.1 ?_
  refine lv_iload_n hx hb gX6_shouldHour_0.2.2.2.2.2.2.2.1 rfl (lv_at1 hl) ?_
  refine aldN hC hK hP 1 rfl (k := jt) (by omega) (Nat.le_of_ble_eq_true rfl) (v := fsh jt) rfl gX6_shouldHour_0.2.2.2.2.2.2.2.2.1 ?_
  refine lv_goto (tgt := 21) hx hb gX6_shouldHour_0.2.2.2.2.2.2.2.2.2 (by decide) ?_
  refine toQ hQ0 ?_
  exact RP (v := fsh jt) hC (rfl) rfl gX6_shouldHour_1.2
def K_c_thingOfX (l : Launch) (G : GG) (LN9 : Nat → LNT) (TR9 : Nat → Prop) (h0 : Nat) (ji : Nat) (bb : Nat) (sg : Nat) (fc : Nat) (sh : Nat) (r1 : Int32) (cn : Nat) (rh : Int32) (bpersons : Nat) (bpapers : Nat) (bstamps : Nat) (bversions : Nat) (blines : Nat) (bsteps : Nat) (bsayings : Nat) (bfindings : Nat) (bwarnings : Nat) (bquestions : Nat) (td : Int32) (vd : Int32) (vl : Int32) (gp : Int32) (blinesc : Nat) (kblines : Nat) (fblines : Nat → Int32) : Prop := MP l G yX6_thingOf cX6_thingOf 3 (some .int) 3 [.ref h0, .int (nI ji)] [(h0, oX6 bb sg fc sh r1 (nI cn) rh), (bb, oX0 bpersons bpapers bstamps bversions blines bsteps bsayings bfindings bwarnings bquestions td vd vl gp), (blines, oX8 72 7 blinesc (nI kblines)), (blinesc, iA G 504 fblines)] (fun r : Int32 => ∃ (t9:Int32), (THV (LVF LN9 TR9 ji) t9) ∧ r = t9)
set_option maxHeartbeats 4000000 in
set_option maxRecDepth 100000 in
theorem c_thingOfX (l : Launch) (G : GG) (LN9 : Nat → LNT) (TR9 : Nat → Prop) (h0 : Nat) (ji : Nat) (bb : Nat) (sg : Nat) (fc : Nat) (sh : Nat) (r1 : Int32) (cn : Nat) (rh : Int32) (bpersons : Nat) (bpapers : Nat) (bstamps : Nat) (bversions : Nat) (blines : Nat) (bsteps : Nat) (bsayings : Nat) (bfindings : Nat) (bwarnings : Nat) (bquestions : Nat) (td : Int32) (vd : Int32) (vl : Int32) (gp : Int32) (blinesc : Nat) (kblines : Nat) (fblines : Nat → Int32) (hkblines : kblines ≤ 72) (hRU : RUP fblines kblines r1 cn rh LN9 TR9) (hji : ji < cn) : K_c_thingOfX l G LN9 TR9 h0 ji bb sg fc sh r1 cn rh bpersons bpapers bstamps bversions blines bsteps bsayings bfindings bwarnings bquestions td vd vl gp blinesc kblines fblines := by
  refine MP.start (by decide +kernel) (Nat.le_of_ble_eq_true rfl) ?_
  intro p e s m below meth c ls hC hK hP hD hl
  refine absQ (fun Q0 hQ0 => ?_)
  have hl : lv_has ls 3 [(0, .ref h0), (1, .int (nI ji))] := hl
  refine Kan8 hC (fun hx hb hr hml hB hown hlocks hnm => ?_)
  obtain ⟨hn9, lo9, rfl, hlo9, hrow9⟩ := hRU
  have hr9 := hrow9 ji hji
  obtain ⟨so9, hso9⟩ : ∃ z9, z9 = (LN9 ji).1 := ⟨_, rfl⟩
  have hsb9 : so9 ≤ 3 := by rw [hso9]; exact hr9.1.le
  refine lv_aload_n hx hb gX6_thingOf_0.1 rfl (lv_at0 hl) ?_
  refine gf_X6_33 hC rfl hK hP 0 rfl rfl gX6_thingOf_0.2.1 ?_
  refine lv_iload_n hx hb gX6_thingOf_0.2.2.1 rfl (lv_at1 hl) ?_
  refine pSN hC hK hl (c_hasBit l G rh (nI ji)) si_X6_98 rfl rfl (Nat.le_of_ble_eq_true rfl) rm_3_1_2 ⟨by first | exact Nat.le_of_ble_eq_true rfl | exact Nat.zero_le _, by first | exact Nat.le_of_ble_eq_true rfl | exact Nat.zero_le _⟩ gX6_thingOf_0.2.2.2.1 (Kors (Keqa fun a3952 => ?_) (Keqa fun a3952 => ?_))
  · refine lv_if_ne (tgt := 13) hx hb gX6_thingOf_0.2.2.2.2.1 (by decide) (fun _ => ?_) (fun c9 => absurd c9 (by decide))
    refine lv_aload_n hx hb gX6_thingOf_0.2.2.2.2.2.2.2.1 rfl (lv_at0 hl) ?_
    refine gf_X6_18 hC rfl hK hP 0 rfl rfl gX6_thingOf_0.2.2.2.2.2.2.2.2.1 ?_
    refine gf_X6_65 hC rfl hK hP 1 rfl rfl gX6_thingOf_0.2.2.2.2.2.2.2.2.2 ?_
    refine lv_aload_n hx hb gX6_thingOf_1.1 rfl (lv_at0 hl) ?_
    refine gf_X6_26 hC rfl hK hP 0 rfl rfl gX6_thingOf_1.2.1 ?_
    refine lv_iload_n hx hb gX6_thingOf_1.2.2.1 rfl (lv_at1 hl) ?_
    refine lv_iadd hx hb gX6_thingOf_1.2.2.2.1 ?_
    refine eqi (x1 := nI (lo9 + ji)) (nI_add lo9 ji) ?_
    refine lv_iconst (v := 0) hx hb gX6_thingOf_1.2.2.2.2.1 (by decide) ?_
    refine pV hC hK hl hP hD (c_T_at l G blines (nI (lo9 + ji)) 0 72 7 blinesc kblines fblines (hkblines) (by omega) (by omega)) si_X6_46 [2, 3] sm_2_3 fm_2_3 nd_2_3 rfl rfl rfl rfl rfl (Nat.le_of_ble_eq_true rfl) rm_3_1_3 ⟨by first | exact Nat.le_of_ble_eq_true rfl | exact Nat.zero_le _, by first | exact Nat.le_of_ble_eq_true rfl | exact Nat.zero_le _⟩ gX6_thingOf_1.2.2.2.2.2.1 (fun r3953 hr3953 => ?_)
    refine eqi (x1 := nI so9) ((hr3953.trans (tatq (by omega) (by omega) (by decide) (by decide) rfl)).trans (hr9.2.1.trans (congrArg nI hso9.symm))) ?_
    refine lv_istore_n (lv' := [(2, .int (nI so9)), (0, .ref h0), (1, .int (nI ji))]) hx hb gX6_thingOf_1.2.2.2.2.2.2.1 rfl hl (by decide) rfl (fun ls hl => ?_)
    refine lv_iload_n hx hb gX6_thingOf_1.2.2.2.2.2.2.2.1 rfl (lv_at0 hl) ?_
    refine lv_if_ne (tgt := 53) hx hb gX6_thingOf_1.2.2.2.2.2.2.2.2.1 (by decide) (fun c_32_3955 => ?_) (fun c_32_3955 => ?_)
    · refine lv_iload_n hx hb gX6_thingOf_2.2.2.2.2.2.2.2.2.2 rfl (lv_at0 hl) ?_
      refine lv_iconst (v := 2) hx hb gX6_thingOf_3.1 (by decide) ?_
      refine lv_icmp_ne (tgt := 78) hx hb gX6_thingOf_3.2.1 (by decide) (fun c_55_3956 => ?_) (fun c_55_3956 => ?_)
      · refine lv_iconst (v := (-1)) hx hb gX6_thingOf_4.2.2.1 (by decide) ?_
        refine toQ hQ0 ?_
        exact RP (v := (-1)) hC (⟨_, THV.tn (hr9.2.2.2.2.2.mp a3952) (fun h9 => c_32_3955 (congrArg nI (hso9.trans h9))) (fun h9 => c_55_3956 (congrArg nI (hso9.trans h9))), rfl⟩) rfl gX6_thingOf_4.2.2.2
      · refine lv_aload_n hx hb gX6_thingOf_3.2.2.1 rfl (lv_at1 hl) ?_
        refine gf_X6_18 hC rfl hK hP 0 rfl rfl gX6_thingOf_3.2.2.2.1 ?_
        refine gf_X6_65 hC rfl hK hP 1 rfl rfl gX6_thingOf_3.2.2.2.2.1 ?_
        refine lv_aload_n hx hb gX6_thingOf_3.2.2.2.2.2.1 rfl (lv_at1 hl) ?_
        refine gf_X6_26 hC rfl hK hP 0 rfl rfl gX6_thingOf_3.2.2.2.2.2.2.1 ?_
        refine lv_iload_n hx hb gX6_thingOf_3.2.2.2.2.2.2.2.1 rfl (lv_at2 hl) ?_
        refine lv_iadd hx hb gX6_thingOf_3.2.2.2.2.2.2.2.2.1 ?_
        refine eqi (x1 := nI (lo9 + ji)) (nI_add lo9 ji) ?_
        refine lv_iconst (v := 1) hx hb gX6_thingOf_3.2.2.2.2.2.2.2.2.2 (by decide) ?_
        refine pV hC hK hl hP hD (c_T_at l G blines (nI (lo9 + ji)) 1 72 7 blinesc kblines fblines (hkblines) (by omega) (by omega)) si_X6_46 [2, 3] sm_2_3 fm_2_3 nd_2_3 rfl rfl rfl rfl rfl (Nat.le_of_ble_eq_true rfl) rm_3_1_3 ⟨by first | exact Nat.le_of_ble_eq_true rfl | exact Nat.zero_le _, by first | exact Nat.le_of_ble_eq_true rfl | exact Nat.zero_le _⟩ gX6_thingOf_4.1 (fun r3957 hr3957 => ?_)
        refine eqi (x1 := (LN9 ji).2.1) ((hr3957.trans (tatq (by omega) (by omega) (by decide) (by decide) rfl)).trans (hr9.2.2.1)) ?_
        refine lv_goto (tgt := 79) hx hb gX6_thingOf_4.2.1 (by decide) ?_
        refine toQ hQ0 ?_
        exact RP (v := (LN9 ji).2.1) hC (⟨_, THV.t2 hr9.1 (hr9.2.2.2.2.2.mp a3952) (hso9.symm.trans ((nI_eq (b := 2) (by omega) (by decide)).mp c_55_3956)), rfl⟩) rfl gX6_thingOf_4.2.2.2
    · refine lv_aload_n hx hb gX6_thingOf_1.2.2.2.2.2.2.2.2.2 rfl (lv_at1 hl) ?_
      refine gf_X6_18 hC rfl hK hP 0 rfl rfl gX6_thingOf_2.1 ?_
      refine gf_X6_65 hC rfl hK hP 1 rfl rfl gX6_thingOf_2.2.1 ?_
      refine lv_aload_n hx hb gX6_thingOf_2.2.2.1 rfl (lv_at1 hl) ?_
      refine gf_X6_26 hC rfl hK hP 0 rfl rfl gX6_thingOf_2.2.2.2.1 ?_
      refine lv_iload_n hx hb gX6_thingOf_2.2.2.2.2.1 rfl (lv_at2 hl) ?_
      refine lv_iadd hx hb gX6_thingOf_2.2.2.2.2.2.1 ?_
      refine eqi (x1 := nI (lo9 + ji)) (nI_add lo9 ji) ?_
      refine lv_iconst (v := 2) hx hb gX6_thingOf_2.2.2.2.2.2.2.1 (by decide) ?_
      refine pV hC hK hl hP hD (c_T_at l G blines (nI (lo9 + ji)) 2 72 7 blinesc kblines fblines (hkblines) (by omega) (by omega)) si_X6_46 [2, 3] sm_2_3 fm_2_3 nd_2_3 rfl rfl rfl rfl rfl (Nat.le_of_ble_eq_true rfl) rm_3_1_3 ⟨by first | exact Nat.le_of_ble_eq_true rfl | exact Nat.zero_le _, by first | exact Nat.le_of_ble_eq_true rfl | exact Nat.zero_le _⟩ gX6_thingOf_2.2.2.2.2.2.2.2.1 (fun r3959 hr3959 => ?_)
      refine eqi (x1 := (LN9 ji).2.2.1) ((hr3959.trans (tatq (by omega) (by omega) (by decide) (by decide) rfl)).trans (hr9.2.2.2.1)) ?_
      refine toQ hQ0 ?_
      exact RP (v := (LN9 ji).2.2.1) hC (⟨_, THV.t0 hr9.1 (hr9.2.2.2.2.2.mp a3952) (hso9.symm.trans ((nI_eq (b := 0) (by omega) (by decide)).mp c_32_3955)), rfl⟩) rfl gX6_thingOf_2.2.2.2.2.2.2.2.2.1
  · refine lv_if_ne (tgt := 13) hx hb gX6_thingOf_0.2.2.2.2.1 (by decide) (fun c9 => absurd (by decide) c9) (fun _ => ?_)
    refine lv_iconst (v := (-1)) hx hb gX6_thingOf_0.2.2.2.2.2.1 (by decide) ?_
    refine toQ hQ0 ?_
    exact RP (v := (-1)) hC (⟨_, THV.off (fun h9 => a3952 (hr9.2.2.2.2.2.mpr h9)), rfl⟩) rfl gX6_thingOf_0.2.2.2.2.2.2.1
def K_c_hourByX (l : Launch) (G : GG) (jo9 : Option Nat) (jw9 : Nat) (S9 : HOP) (h0 : Nat) (ji : Nat) (bb : Nat) (sg : Nat) (fc : Nat) (sh : Nat) (r1 : Int32) (cn : Nat) (rh : Int32) (fsh : Nat → Int32) (bpersons : Nat) (bpapers : Nat) (bstamps : Nat) (bversions : Nat) (blines : Nat) (bsteps : Nat) (bsayings : Nat) (bfindings : Nat) (bwarnings : Nat) (bquestions : Nat) (td : Int32) (vd : Int32) (vl : Int32) (gp : Int32) (blinesc : Nat) (kblines : Nat) (fblines : Nat → Int32) : Prop := MP l G yX6_hourBy cX6_hourBy 4 (some .int) 3 [.ref h0, .int (nI ji)] [(h0, oX6 bb sg fc sh r1 (nI cn) rh), (sh, iA G 8 fsh), (bb, oX0 bpersons bpapers bstamps bversions blines bsteps bsayings bfindings bwarnings bquestions td vd vl gp), (blines, oX8 72 7 blinesc (nI kblines)), (blinesc, iA G 504 fblines)] (fun r : Int32 => ∃ (y9:Int32), (ARV 1000000 (HRV jo9 jw9 S9) y9) ∧ r = y9)
set_option maxHeartbeats 4000000 in
set_option maxRecDepth 100000 in
theorem c_hourByX (l : Launch) (G : GG) (LN9 : Nat → LNT) (TR9 : Nat → Prop) (jt9 : Nat) (jo9 : Option Nat) (jw9 : Nat) (S9 : HOP) (h0 : Nat) (ji : Nat) (bb : Nat) (sg : Nat) (fc : Nat) (sh : Nat) (r1 : Int32) (cn : Nat) (rh : Int32) (fsh : Nat → Int32) (bpersons : Nat) (bpapers : Nat) (bstamps : Nat) (bversions : Nat) (blines : Nat) (bsteps : Nat) (bsayings : Nat) (bfindings : Nat) (bwarnings : Nat) (bquestions : Nat) (td : Int32) (vd : Int32) (vl : Int32) (gp : Int32) (blinesc : Nat) (kblines : Nat) (fblines : Nat → Int32) (hkblines : kblines ≤ 72) (hRU : RUP fblines kblines r1 cn rh LN9 TR9) (hji : ji < cn) (hLV : LVF LN9 TR9 ji = some (jt9, jo9, jw9)) (hAR : ARS 1000000 S9 fsh) (hBD : HBD S9) : K_c_hourByX l G jo9 jw9 S9 h0 ji bb sg fc sh r1 cn rh fsh bpersons bpapers bstamps bversions blines bsteps bsayings bfindings bwarnings bquestions td vd vl gp blinesc kblines fblines := by
  refine MP.start (by decide +kernel) (Nat.le_of_ble_eq_true rfl) ?_
  intro p e s m below meth c ls hC hK hP hD hl
  refine absQ (fun Q0 hQ0 => ?_)
  have hl : lv_has ls 4 [(0, .ref h0), (1, .int (nI ji))] := hl
  refine Kan8 hC (fun hx hb hr hml hB hown hlocks hnm => ?_)
  obtain ⟨hn9, lo9, rfl, hlo9, hrow9⟩ := hRU
  have hr9 := hrow9 ji hji
  obtain ⟨so9, hso9⟩ : ∃ z9, z9 = (LN9 ji).1 := ⟨_, rfl⟩
  have hsb9 : so9 ≤ 3 := by rw [hso9]; exact hr9.1.le
  have hv9 := LVX.inv hLV hr9.1
  rcases hv9.2 with ⟨e0, c9, rfl, hc8, hw9, e1, e3⟩ | ⟨e0, rfl, hw9, e2⟩
  · refine lv_aload_n hx hb gX6_hourBy_0.1 rfl (lv_at0 hl) ?_
    refine gf_X6_26 hC rfl hK hP 0 rfl rfl gX6_hourBy_0.2.1 ?_
    refine lv_iload_n hx hb gX6_hourBy_0.2.2.1 rfl (lv_at1 hl) ?_
    refine lv_iadd hx hb gX6_hourBy_0.2.2.2.1 ?_
    refine eqi (x1 := nI (lo9 + ji)) (nI_add lo9 ji) ?_
    refine lv_istore_n (lv' := [(2, .int (nI (lo9 + ji))), (0, .ref h0), (1, .int (nI ji))]) hx hb gX6_hourBy_0.2.2.2.2.1 rfl hl (by decide) rfl (fun ls hl => ?_)
    refine lv_aload_n hx hb gX6_hourBy_0.2.2.2.2.2.1 rfl (lv_at1 hl) ?_
    refine gf_X6_18 hC rfl hK hP 0 rfl rfl gX6_hourBy_0.2.2.2.2.2.2.1 ?_
    refine gf_X6_65 hC rfl hK hP 2 rfl rfl gX6_hourBy_0.2.2.2.2.2.2.2.1 ?_
    refine lv_iload_n hx hb gX6_hourBy_0.2.2.2.2.2.2.2.2.1 rfl (lv_at0 hl) ?_
    refine lv_iconst (v := 0) hx hb gX6_hourBy_0.2.2.2.2.2.2.2.2.2 (by decide) ?_
    refine pV hC hK hl hP hD (c_T_at l G blines (nI (lo9 + ji)) 0 72 7 blinesc kblines fblines (hkblines) (by omega) (by omega)) si_X6_46 [3, 4] sm_3_4 fm_3_4 nd_3_4 rfl rfl rfl rfl rfl (Nat.le_of_ble_eq_true rfl) rm_3_1_3 ⟨by first | exact Nat.le_of_ble_eq_true rfl | exact Nat.zero_le _, by first | exact Nat.le_of_ble_eq_true rfl | exact Nat.zero_le _⟩ gX6_hourBy_1.1 (fun r3961 hr3961 => ?_)
    refine eqi (x1 := 0) ((hr3961.trans (tatq (by omega) (by omega) (by decide) (by decide) rfl)).trans (hr9.2.1.trans (congrArg nI e0))) ?_
    refine lv_iconst (v := 2) hx hb gX6_hourBy_1.2.1 (by decide) ?_
    refine lv_icmp_ne (tgt := 36) hx hb gX6_hourBy_1.2.2.1 (by decide) (fun _ => ?_) (fun c9 => absurd c9 (by decide))
    refine lv_aload_n hx hb gX6_hourBy_2.1 rfl (lv_at1 hl) ?_
    refine lv_aload_n hx hb gX6_hourBy_2.2.1 rfl (lv_at1 hl) ?_
    refine gf_X6_18 hC rfl hK hP 0 rfl rfl gX6_hourBy_2.2.2.1 ?_
    refine gf_X6_65 hC rfl hK hP 2 rfl rfl gX6_hourBy_2.2.2.2.1 ?_
    refine lv_iload_n hx hb gX6_hourBy_2.2.2.2.2.1 rfl (lv_at0 hl) ?_
    refine lv_iconst (v := 3) hx hb gX6_hourBy_2.2.2.2.2.2.1 (by decide) ?_
    refine pV hC hK hl hP hD (c_T_at l G blines (nI (lo9 + ji)) 3 72 7 blinesc kblines fblines (hkblines) (by omega) (by omega)) si_X6_46 [3, 4] sm_3_4 fm_3_4 nd_3_4 rfl rfl rfl rfl rfl (Nat.le_of_ble_eq_true rfl) rm_3_1_3 ⟨by first | exact Nat.le_of_ble_eq_true rfl | exact Nat.zero_le _, by first | exact Nat.le_of_ble_eq_true rfl | exact Nat.zero_le _⟩ gX6_hourBy_2.2.2.2.2.2.2.1 (fun r3963 hr3963 => ?_)
    refine eqi (x1 := nI c9) ((hr3963.trans (tatq (by omega) (by omega) (by decide) (by decide) rfl)).trans (hr9.2.2.2.2.1.trans e3)) ?_
    refine pV hC hK hl hP hD (c_shouldHourX l G h0 c9 bb sg fc sh (nI lo9) (nI cn) rh fsh (by omega)) si_X6_102 [0, 1] sm_0_1 fm_0_1 nd_0_1 rfl rfl rfl rfl rfl (Nat.le_of_ble_eq_true rfl) rm_3_1_2 ⟨by first | exact Nat.le_of_ble_eq_true rfl | exact Nat.zero_le _, by first | exact Nat.le_of_ble_eq_true rfl | exact Nat.zero_le _⟩ gX6_hourBy_2.2.2.2.2.2.2.2.1 (Keqr ?_)
    refine lv_istore_n (lv' := [(3, .int (fsh c9)), (2, .int (nI (lo9 + ji))), (0, .ref h0), (1, .int (nI ji))]) hx hb gX6_hourBy_2.2.2.2.2.2.2.2.2.1 rfl hl (by decide) rfl (fun ls hl => ?_)
    refine lv_iload_n hx hb gX6_hourBy_2.2.2.2.2.2.2.2.2.2 rfl (lv_at0 hl) ?_
    refine lv_ldc hx hb hown (hB _ m_597) gX6_hourBy_3.1 ?_
    refine lv_icmp_ne (tgt := 64) hx hb gX6_hourBy_3.2.1 (by decide) (fun c_56_3967 => ?_) (fun c_56_3967 => ?_)
    · refine lv_iload_n hx hb gX6_hourBy_3.2.2.2.2.1 rfl (lv_at0 hl) ?_
      refine lv_aload_n hx hb gX6_hourBy_3.2.2.2.2.2.1 rfl (lv_at2 hl) ?_
      refine gf_X6_18 hC rfl hK hP 0 rfl rfl gX6_hourBy_3.2.2.2.2.2.2.1 ?_
      refine gf_X6_65 hC rfl hK hP 2 rfl rfl gX6_hourBy_3.2.2.2.2.2.2.2.1 ?_
      refine lv_iload_n hx hb gX6_hourBy_3.2.2.2.2.2.2.2.2.1 rfl (lv_at1 hl) ?_
      refine lv_iconst (v := 1) hx hb gX6_hourBy_3.2.2.2.2.2.2.2.2.2 (by decide) ?_
      refine pV hC hK hl hP hD (c_T_at l G blines (nI (lo9 + ji)) 1 72 7 blinesc kblines fblines (hkblines) (by omega) (by omega)) si_X6_46 [3, 4] sm_3_4 fm_3_4 nd_3_4 rfl rfl rfl rfl rfl (Nat.le_of_ble_eq_true rfl) rm_3_1_3 ⟨by first | exact Nat.le_of_ble_eq_true rfl | exact Nat.zero_le _, by first | exact Nat.le_of_ble_eq_true rfl | exact Nat.zero_le _⟩ gX6_hourBy_4.1 (fun r3968 hr3968 => ?_)
      refine eqi (x1 := nI jw9) ((hr3968.trans (tatq (by omega) (by omega) (by decide) (by decide) rfl)).trans (hr9.2.2.1.trans e1)) ?_
      refine lv_iadd hx hb gX6_hourBy_4.2.1 ?_
      refine toQ hQ0 ?_
      exact RP (v := (fsh c9) + (nI jw9)) hC (⟨_, HBY.sm hAR hBD hc8 (by decide) c_56_3967 hw9, rfl⟩) rfl gX6_hourBy_4.2.2
    · refine lv_ldc hx hb hown (hB _ m_597) gX6_hourBy_3.2.2.1 ?_
      refine lv_goto (tgt := 78) hx hb gX6_hourBy_3.2.2.2.1 (by decide) ?_
      refine toQ hQ0 ?_
      exact RP (v := 1000000) hC (⟨_, HBY.nv hAR hBD hc8 (by decide) c_56_3967, rfl⟩) rfl gX6_hourBy_4.2.2
  · refine lv_aload_n hx hb gX6_hourBy_0.1 rfl (lv_at0 hl) ?_
    refine gf_X6_26 hC rfl hK hP 0 rfl rfl gX6_hourBy_0.2.1 ?_
    refine lv_iload_n hx hb gX6_hourBy_0.2.2.1 rfl (lv_at1 hl) ?_
    refine lv_iadd hx hb gX6_hourBy_0.2.2.2.1 ?_
    refine eqi (x1 := nI (lo9 + ji)) (nI_add lo9 ji) ?_
    refine lv_istore_n (lv' := [(2, .int (nI (lo9 + ji))), (0, .ref h0), (1, .int (nI ji))]) hx hb gX6_hourBy_0.2.2.2.2.1 rfl hl (by decide) rfl (fun ls hl => ?_)
    refine lv_aload_n hx hb gX6_hourBy_0.2.2.2.2.2.1 rfl (lv_at1 hl) ?_
    refine gf_X6_18 hC rfl hK hP 0 rfl rfl gX6_hourBy_0.2.2.2.2.2.2.1 ?_
    refine gf_X6_65 hC rfl hK hP 2 rfl rfl gX6_hourBy_0.2.2.2.2.2.2.2.1 ?_
    refine lv_iload_n hx hb gX6_hourBy_0.2.2.2.2.2.2.2.2.1 rfl (lv_at0 hl) ?_
    refine lv_iconst (v := 0) hx hb gX6_hourBy_0.2.2.2.2.2.2.2.2.2 (by decide) ?_
    refine pV hC hK hl hP hD (c_T_at l G blines (nI (lo9 + ji)) 0 72 7 blinesc kblines fblines (hkblines) (by omega) (by omega)) si_X6_46 [3, 4] sm_3_4 fm_3_4 nd_3_4 rfl rfl rfl rfl rfl (Nat.le_of_ble_eq_true rfl) rm_3_1_3 ⟨by first | exact Nat.le_of_ble_eq_true rfl | exact Nat.zero_le _, by first | exact Nat.le_of_ble_eq_true rfl | exact Nat.zero_le _⟩ gX6_hourBy_1.1 (fun r3970 hr3970 => ?_)
    refine eqi (x1 := 2) ((hr3970.trans (tatq (by omega) (by omega) (by decide) (by decide) rfl)).trans (hr9.2.1.trans (congrArg nI e0))) ?_
    refine lv_iconst (v := 2) hx hb gX6_hourBy_1.2.1 (by decide) ?_
    refine lv_icmp_ne (tgt := 36) hx hb gX6_hourBy_1.2.2.1 (by decide) (fun c9 => absurd (by decide) c9) (fun _ => ?_)
    refine lv_aload_n hx hb gX6_hourBy_1.2.2.2.1 rfl (lv_at1 hl) ?_
    refine gf_X6_18 hC rfl hK hP 0 rfl rfl gX6_hourBy_1.2.2.2.2.1 ?_
    refine gf_X6_65 hC rfl hK hP 2 rfl rfl gX6_hourBy_1.2.2.2.2.2.1 ?_
    refine lv_iload_n hx hb gX6_hourBy_1.2.2.2.2.2.2.1 rfl (lv_at0 hl) ?_
    refine lv_iconst (v := 2) hx hb gX6_hourBy_1.2.2.2.2.2.2.2.1 (by decide) ?_
    refine pV hC hK hl hP hD (c_T_at l G blines (nI (lo9 + ji)) 2 72 7 blinesc kblines fblines (hkblines) (by omega) (by omega)) si_X6_46 [3, 4] sm_3_4 fm_3_4 nd_3_4 rfl rfl rfl rfl rfl (Nat.le_of_ble_eq_true rfl) rm_3_1_3 ⟨by first | exact Nat.le_of_ble_eq_true rfl | exact Nat.zero_le _, by first | exact Nat.le_of_ble_eq_true rfl | exact Nat.zero_le _⟩ gX6_hourBy_1.2.2.2.2.2.2.2.2.1 (fun r3972 hr3972 => ?_)
    refine eqi (x1 := nI jw9) ((hr3972.trans (tatq (by omega) (by omega) (by decide) (by decide) rfl)).trans (hr9.2.2.2.1.trans e2)) ?_
    refine toQ hQ0 ?_
    exact RP (v := nI jw9) hC (⟨_, HBY.ask hw9, rfl⟩) rfl gX6_hourBy_1.2.2.2.2.2.2.2.2.2
def K_c_tellEarlierX (l : Launch) (G : GG) (LN9 : Nat → LNT) (TR9 : Nat → Prop) (S9 : HOP) (h0 : Nat) (bb : Nat) (sg : Nat) (fc : Nat) (sh : Nat) (r1 : Int32) (cn : Nat) (rh : Int32) (fsh : Nat → Int32) (bpersons : Nat) (bpapers : Nat) (bstamps : Nat) (bversions : Nat) (blines : Nat) (bsteps : Nat) (bsayings : Nat) (bfindings : Nat) (bwarnings : Nat) (bquestions : Nat) (td : Int32) (vd : Int32) (vl : Int32) (gp : Int32) (blinesc : Nat) (kblines : Nat) (fblines : Nat → Int32) : Prop := MI l G yX6_tellEarlier cX6_tellEarlier 4 (some .boolean) 4 0 0 [.ref h0] [(h0, oX6 bb sg fc sh r1 (nI cn) rh), (sh, iA G 8 fsh), (bb, oX0 bpersons bpapers bstamps bversions blines bsteps bsayings bfindings bwarnings bquestions td vd vl gp), (blines, oX8 72 7 blinesc (nI kblines)), (blinesc, iA G 504 fblines)] (fun (r : Int32) (u : (Nat → Int32)) => (r = 1 ∨ (r = 0 ∧ PSS (LVF LN9 TR9) cn S9 = S9)) ∧ (ARS 1000000 (PSS (LVF LN9 TR9) cn S9) u)) (fun u : (Nat → Int32) => [(h0, oX6 bb sg fc sh r1 (nI cn) rh), (sh, iA G 8 u), (bb, oX0 bpersons bpapers bstamps bversions blines bsteps bsayings bfindings bwarnings bquestions td vd vl gp), (blines, oX8 72 7 blinesc (nI kblines)), (blinesc, iA G 504 fblines)])
set_option maxHeartbeats 4000000 in
set_option maxRecDepth 100000 in
theorem c_tellEarlierX (l : Launch) (G : GG) (LN9 : Nat → LNT) (TR9 : Nat → Prop) (S9 : HOP) (h0 : Nat) (bb : Nat) (sg : Nat) (fc : Nat) (sh : Nat) (r1 : Int32) (cn : Nat) (rh : Int32) (fsh : Nat → Int32) (bpersons : Nat) (bpapers : Nat) (bstamps : Nat) (bversions : Nat) (blines : Nat) (bsteps : Nat) (bsayings : Nat) (bfindings : Nat) (bwarnings : Nat) (bquestions : Nat) (td : Int32) (vd : Int32) (vl : Int32) (gp : Int32) (blinesc : Nat) (kblines : Nat) (fblines : Nat → Int32) (hkblines : kblines ≤ 72) (hRU : RUP fblines kblines r1 cn rh LN9 TR9) (hAR : ARS 1000000 S9 fsh) (hBD : HBD S9) : K_c_tellEarlierX l G LN9 TR9 S9 h0 bb sg fc sh r1 cn rh fsh bpersons bpapers bstamps bversions blines bsteps bsayings bfindings bwarnings bquestions td vd vl gp blinesc kblines fblines := by
  refine MI.start (by decide +kernel) (Nat.le_of_ble_eq_true rfl) ?_
  intro p e s m below meth c A ls hC hK hP hD hS hA hl
  refine absQ (fun Q0 hQ0 => ?_)
  have hl : lv_has ls 4 [(0, .ref h0)] := hl
  refine Kan8 hC (fun hx hb hr hml hB hown hlocks hnm => ?_)
  have hlb9 := hRU.lvb
  have hcn9 := hRU.1
  refine lv_iconst (v := 0) hx hb gX6_tellEarlier_0.1 (by decide) ?_
  refine lv_istore_n (lv' := [(1, .int 0), (0, .ref h0)]) hx hb gX6_tellEarlier_0.2.1 rfl hl (by decide) rfl (fun ls hl => ?_)
  refine lv_iconst (v := 0) hx hb gX6_tellEarlier_0.2.2.1 (by decide) ?_
  refine lv_istore_n (lv' := [(2, .int 0), (1, .int 0), (0, .ref h0)]) hx hb gX6_tellEarlier_0.2.2.2.1 rfl hl (by decide) rfl (fun ls hl => ?_)
  have keyP : ∀ (nP kP : Nat) (so : Int32) (vsh : Nat → Int32) (H : Heap) (locs : List Loc) (ls : Array Slot), kP + nP = cn → ((so = 0 ∧ PSS (LVF LN9 TR9) kP S9 = S9) ∨ so = 1) → (ARS 1000000 (PSS (LVF LN9 TR9) kP S9) vsh) → va_PD G A [(h0, oX6 bb sg fc sh r1 (nI cn) rh), (sh, iA G 8 vsh), (bb, oX0 bpersons bpapers bstamps bversions blines bsteps bsayings bfindings bwarnings bquestions td vd vl gp), (blines, oX8 72 7 blinesc (nI kblines)), (blinesc, iA G 504 fblines)] H → va_S A s.heap H locs → lv_has ls 4 [(2, .int (nI kP)), (1, .int so), (0, .ref h0)] → W p l e (RM 4 0 0) s m ([.ref h0] : List Value).toArray below meth c H locs 0 0 Q0 (F0 m 4 ls []) := by
    intro nP
    induction nP with
    | zero =>
      intro kP so vsh H locs ls hkP hso hsv hPD hS hl
      refine Kan2 hPD (fun hP hD => ?_)
      obtain rfl : cn = kP := by omega
      have hl : lv_has ls 4 [(2, .int (nI cn)), (1, .int so), (0, .ref h0)] := hl
      refine lv_iload_n hx hb gX6_tellEarlier_0.2.2.2.2.1 rfl (lv_at0 hl) ?_
      refine lv_aload_n hx hb gX6_tellEarlier_0.2.2.2.2.2.1 rfl (lv_at2 hl) ?_
      refine gf_X6_30 hC rfl hK hP 0 rfl rfl gX6_tellEarlier_0.2.2.2.2.2.2.1 ?_
      refine lv_icmp_ge (tgt := 61) hx hb gX6_tellEarlier_0.2.2.2.2.2.2.2.1 (by decide) (fun _ => ?_) (fun c9 => absurd (Int32.le_refl _) c9)
      rcases hso with ⟨rfl, hso2⟩ | rfl
      · refine lv_iload_n hx hb gX6_tellEarlier_3.2.2.2.2.2.1 rfl (lv_at1 hl) ?_
        refine toQ hQ0 ?_
        exact RI (v := 0) hC hP hD hS [0, 1, 2, 3, 4] vsh rfl rfl (by decide) (⟨Or.inr (⟨rfl, (by first | assumption | (simp_all; done))⟩), hsv⟩) (by decide +kernel) gX6_tellEarlier_3.2.2.2.2.2.2
      · refine lv_iload_n hx hb gX6_tellEarlier_3.2.2.2.2.2.1 rfl (lv_at1 hl) ?_
        refine toQ hQ0 ?_
        exact RI (v := 1) hC hP hD hS [0, 1, 2, 3, 4] vsh rfl rfl (by decide) (⟨Or.inl (rfl), hsv⟩) (by decide +kernel) gX6_tellEarlier_3.2.2.2.2.2.2
    | succ nP ihP =>
      intro kP so vsh H locs ls hkP hso hsv hPD hS hl
      refine Kan2 hPD (fun hP hD => ?_)
      refine lv_iload_n hx hb gX6_tellEarlier_0.2.2.2.2.1 rfl (lv_at0 hl) ?_
      refine lv_aload_n hx hb gX6_tellEarlier_0.2.2.2.2.2.1 rfl (lv_at2 hl) ?_
      refine gf_X6_30 hC rfl hK hP 0 rfl rfl gX6_tellEarlier_0.2.2.2.2.2.2.1 ?_
      refine lv_icmp_ge (tgt := 61) hx hb gX6_tellEarlier_0.2.2.2.2.2.2.2.1 (by decide) (fun c9 => absurd c9 (nI_ge (a := kP) (b := cn) (by omega) (by omega))) (fun _ => ?_)
      have hbd9 : HBD (PSS (LVF LN9 TR9) kP S9) := hBD.pss hlb9 kP (by omega)
      refine lv_aload_n hx hb gX6_tellEarlier_0.2.2.2.2.2.2.2.2.1 rfl (lv_at2 hl) ?_
      refine lv_iload_n hx hb gX6_tellEarlier_0.2.2.2.2.2.2.2.2.2 rfl (lv_at0 hl) ?_
      refine pV hC hK hl hP hD (c_thingOfX l G LN9 TR9 h0 kP bb sg fc sh r1 cn rh bpersons bpapers bstamps bversions blines bsteps bsayings bfindings bwarnings bquestions td vd vl gp blinesc kblines fblines (hkblines) (hRU) (by omega)) si_X6_88 [0, 2, 3, 4] sm_0_2_3_4 fm_0_2_3_4 nd_0_2_3_4 rfl rfl rfl rfl rfl (Nat.le_of_ble_eq_true rfl) rm_4_3_3 ⟨by first | exact Nat.le_of_ble_eq_true rfl | exact Nat.zero_le _, by first | exact Nat.le_of_ble_eq_true rfl | exact Nat.zero_le _⟩ gX6_tellEarlier_1.1 (fun r3974 hr3974 => ?_)
      obtain ⟨t9_3975, hpx3975, hpe3975⟩ := hr3974
      subst r3974
      try dsimp only at hpx3975
      refine lv_istore_n (lv' := [(3, .int t9_3975), (2, .int (nI kP)), (1, .int so), (0, .ref h0)]) hx hb gX6_tellEarlier_1.2.1 rfl hl (by decide) rfl (fun ls hl => ?_)
      refine lv_iload_n hx hb gX6_tellEarlier_1.2.2.1 rfl (lv_at0 hl) ?_
      refine pSN hC hK hl (c_isThing l G t9_3975) si_X6_92 rfl rfl (Nat.le_of_ble_eq_true rfl) rm_4_2_1 ⟨by first | exact Nat.le_of_ble_eq_true rfl | exact Nat.zero_le _, by first | exact Nat.le_of_ble_eq_true rfl | exact Nat.zero_le _⟩ gX6_tellEarlier_1.2.2.2.1 (Kors (Keqa fun a3977 => ?_) (Keqa fun a3977 => ?_))
      · refine lv_if_eq (tgt := 55) hx hb gX6_tellEarlier_1.2.2.2.2.1 (by decide) (fun c9 => absurd c9 (by decide)) (fun _ => ?_)
        obtain ⟨jt, jo, jw, hjt, rfl, hLV9⟩ := THV.inn hpx3975 a3977
        refine lv_aload_n hx hb gX6_tellEarlier_1.2.2.2.2.2.1 rfl (lv_at3 hl) ?_
        refine lv_iload_n hx hb gX6_tellEarlier_1.2.2.2.2.2.2.1 rfl (lv_at1 hl) ?_
        refine pV hC hK hl hP hD (c_hourByX l G LN9 TR9 jt jo jw (PSS (LVF LN9 TR9) kP S9) h0 kP bb sg fc sh r1 cn rh vsh bpersons bpapers bstamps bversions blines bsteps bsayings bfindings bwarnings bquestions td vd vl gp blinesc kblines fblines (hkblines) (hRU) (by omega) (hLV9) (hsv) (hbd9)) si_X6_95 [0, 1, 2, 3, 4] sm_0_1_2_3_4 fm_0_1_2_3_4 nd_0_1_2_3_4 rfl rfl rfl rfl rfl (Nat.le_of_ble_eq_true rfl) rm_4_3_4 ⟨by first | exact Nat.le_of_ble_eq_true rfl | exact Nat.zero_le _, by first | exact Nat.le_of_ble_eq_true rfl | exact Nat.zero_le _⟩ gX6_tellEarlier_1.2.2.2.2.2.2.2.1 (fun r3978 hr3978 => ?_)
        obtain ⟨y9_3979, hpx3979, hpe3979⟩ := hr3978
        subst r3978
        try dsimp only at hpx3979
        refine lv_aload_n hx hb gX6_tellEarlier_1.2.2.2.2.2.2.2.2.1 rfl (lv_at3 hl) ?_
        refine gf_X6_15 hC rfl hK hP 0 rfl rfl gX6_tellEarlier_1.2.2.2.2.2.2.2.2.2 ?_
        refine lv_iload_n hx hb gX6_tellEarlier_2.1 rfl (lv_at0 hl) ?_
        refine aldN hC hK hP 1 rfl (k := jt) (by omega) (Nat.le_of_ble_eq_true rfl) (v := vsh jt) rfl gX6_tellEarlier_2.2.1 ?_
        refine lv_icmp_lt (tgt := 42) hx hb gX6_tellEarlier_2.2.2.1 (by decide) (fun c_36_3980 => ?_) (fun c_36_3980 => ?_)
        · refine lv_aload_n hx hb gX6_tellEarlier_2.2.2.2.2.1 rfl (lv_at3 hl) ?_
          refine gf_X6_15 hC rfl hK hP 0 rfl rfl gX6_tellEarlier_2.2.2.2.2.2.1 ?_
          refine lv_iload_n hx hb gX6_tellEarlier_2.2.2.2.2.2.2.1 rfl (lv_at0 hl) ?_
          refine lv_aload_n hx hb gX6_tellEarlier_2.2.2.2.2.2.2.2.1 rfl (lv_at3 hl) ?_
          refine lv_iload_n hx hb gX6_tellEarlier_2.2.2.2.2.2.2.2.2.1 rfl (lv_at1 hl) ?_
          refine pV hC hK hl hP hD (c_hourByX l G LN9 TR9 jt jo jw (PSS (LVF LN9 TR9) kP S9) h0 kP bb sg fc sh r1 cn rh vsh bpersons bpapers bstamps bversions blines bsteps bsayings bfindings bwarnings bquestions td vd vl gp blinesc kblines fblines (hkblines) (hRU) (by omega) (hLV9) (hsv) (hbd9)) si_X6_95 [0, 1, 2, 3, 4] sm_0_1_2_3_4 fm_0_1_2_3_4 nd_0_1_2_3_4 rfl rfl rfl rfl rfl (Nat.le_of_ble_eq_true rfl) rm_4_3_4 ⟨by first | exact Nat.le_of_ble_eq_true rfl | exact Nat.zero_le _, by first | exact Nat.le_of_ble_eq_true rfl | exact Nat.zero_le _⟩ gX6_tellEarlier_2.2.2.2.2.2.2.2.2.2 (fun r3981 hr3981 => ?_)
          obtain ⟨y9_3982, hpx3982, hpe3982⟩ := hr3981
          subst r3981
          try dsimp only at hpx3982
          refine astN hC hK hP hD hS 1 (ws' := [(h0, oX6 bb sg fc sh r1 (nI cn) rh), (sh, iA G 8 (upd vsh jt y9_3982)), (bb, oX0 bpersons bpapers bstamps bversions blines bsteps bsayings bfindings bwarnings bquestions td vd vl gp), (blines, oX8 72 7 blinesc (nI kblines)), (blinesc, iA G 504 fblines)]) rfl (k := jt) (by omega) (Nat.le_of_ble_eq_true rfl) (rfl) gX6_tellEarlier_3.1 (fun H locs hP hD hS => ?_)
          refine lv_iconst (v := 1) hx hb gX6_tellEarlier_3.2.1 (by decide) ?_
          refine lv_istore_n (lv' := [(1, .int 1), (3, .int (nI jt)), (2, .int (nI kP)), (0, .ref h0)]) hx hb gX6_tellEarlier_3.2.2.1 rfl hl (by decide) rfl (fun ls hl => ?_)
          refine lv_iinc (v := nI (kP + 1)) (lv' := [(2, .int (nI (kP + 1))), (1, .int 1), (3, .int (nI jt)), (0, .ref h0)]) hx hb gX6_tellEarlier_3.2.2.2.1 hl (k := 2) rfl (nI_1 _) (by decide) rfl (fun ls hl => ?_)
          refine lv_goto (tgt := 4) hx hb gX6_tellEarlier_3.2.2.2.2.1 (by decide) ?_
          have hst8 : ((1 : Int32) = 0 ∧ PSS (LVF LN9 TR9) (kP + 1) S9 = S9) ∨ (1 : Int32) = 1 := Or.inr rfl
          have hst9 : ARS 1000000 (PSS (LVF LN9 TR9) (kP + 1) S9) (upd vsh jt y9_3982) := RLX.low hsv hLV9 hbd9 hjt hpx3982 (by rw [ARV.uq hpx3982 hpx3979]; exact c_36_3980) (by decide)
          exact ihP (kP + 1) 1 (upd vsh jt y9_3982) _ _ _ (by omega) (by first | assumption | exact Or.inl rfl | exact Or.inr rfl | exact Or.inl ⟨rfl, rfl⟩ | exact hAR) (by first | assumption | exact Or.inl rfl | exact Or.inr rfl | exact Or.inl ⟨rfl, rfl⟩ | exact hAR) (And.intro hP hD) hS (lv_sub hl [0, 1, 3] rfl)
        · refine lv_goto (tgt := 55) hx hb gX6_tellEarlier_2.2.2.2.1 (by decide) ?_
          refine lv_iinc (v := nI (kP + 1)) (lv' := [(2, .int (nI (kP + 1))), (3, .int (nI jt)), (1, .int so), (0, .ref h0)]) hx hb gX6_tellEarlier_3.2.2.2.1 hl (k := 1) rfl (nI_1 _) (by decide) rfl (fun ls hl => ?_)
          refine lv_goto (tgt := 4) hx hb gX6_tellEarlier_3.2.2.2.2.1 (by decide) ?_
          have heq9 : PSS (LVF LN9 TR9) (kP + 1) S9 = PSS (LVF LN9 TR9) kP S9 := RLX.same hsv hbd9 (hlb9 kP (by omega)) hLV9 hpx3979 c_36_3980 (by decide)
          have hst8 : (so = 0 ∧ PSS (LVF LN9 TR9) (kP + 1) S9 = S9) ∨ so = 1 := hso.imp (fun h9 => ⟨h9.1, heq9.trans h9.2⟩) id
          have hst9 : ARS 1000000 (PSS (LVF LN9 TR9) (kP + 1) S9) vsh := by rw [heq9]; exact hsv
          exact ihP (kP + 1) so vsh _ _ _ (by omega) (by first | assumption | exact Or.inl rfl | exact Or.inr rfl | exact Or.inl ⟨rfl, rfl⟩ | exact hAR) (by first | assumption | exact Or.inl rfl | exact Or.inr rfl | exact Or.inl ⟨rfl, rfl⟩ | exact hAR) (And.intro hP hD) hS (lv_sub hl [0, 2, 3] rfl)
      · refine lv_if_eq (tgt := 55) hx hb gX6_tellEarlier_1.2.2.2.2.1 (by decide) (fun _ => ?_) (fun c9 => absurd (by decide) c9)
        refine lv_iinc (v := nI (kP + 1)) (lv' := [(2, .int (nI (kP + 1))), (3, .int t9_3975), (1, .int so), (0, .ref h0)]) hx hb gX6_tellEarlier_3.2.2.2.1 hl (k := 1) rfl (nI_1 _) (by decide) rfl (fun ls hl => ?_)
        refine lv_goto (tgt := 4) hx hb gX6_tellEarlier_3.2.2.2.2.1 (by decide) ?_
        have heq9 : PSS (LVF LN9 TR9) (kP + 1) S9 = PSS (LVF LN9 TR9) kP S9 := RLX.off (THV.out hpx3975 a3977)
        have hst8 : (so = 0 ∧ PSS (LVF LN9 TR9) (kP + 1) S9 = S9) ∨ so = 1 := hso.imp (fun h9 => ⟨h9.1, heq9.trans h9.2⟩) id
        have hst9 : ARS 1000000 (PSS (LVF LN9 TR9) (kP + 1) S9) vsh := by rw [heq9]; exact hsv
        exact ihP (kP + 1) so vsh _ _ _ (by omega) (by first | assumption | exact Or.inl rfl | exact Or.inr rfl | exact Or.inl ⟨rfl, rfl⟩ | exact hAR) (by first | assumption | exact Or.inl rfl | exact Or.inr rfl | exact Or.inl ⟨rfl, rfl⟩ | exact hAR) (And.intro hP hD) hS (lv_sub hl [0, 2, 3] rfl)
  exact keyP cn 0 0 fsh _ _ _ (by omega) (by first | assumption | exact Or.inl rfl | exact Or.inr rfl | exact Or.inl ⟨rfl, rfl⟩ | exact hAR) (by first | assumption | exact Or.inl rfl | exact Or.inr rfl | exact Or.inl ⟨rfl, rfl⟩ | exact hAR) (And.intro hP hD) hS (lv_sub hl [0, 1, 2] rfl)
def K_c_toldHourX (l : Launch) (G : GG) (K9 : Nat → Nat → Int → Prop) (V9 : Nat → Prop) (fbstamps : Nat → Int32) (kbstamps : Nat) (h0 : Nat) (je : Nat) (jt : Nat) (su : Int32) (bb : Nat) (clk : Nat) (fi : Nat) (la : Nat) (ml : Nat) (mm : Nat) (sl : Nat) (sm : Nat) (scl : Int32) (fla : Nat → Int32) (fml : Nat → Int32) (fmm : Nat → Int32) (fsl : Nat → Int32) (fsm : Nat → Int32) (bpersons : Nat) (bpapers : Nat) (bstamps : Nat) (bversions : Nat) (blines : Nat) (bsteps : Nat) (bsayings : Nat) (bfindings : Nat) (bwarnings : Nat) (bquestions : Nat) (td : Int32) (vd : Int32) (vl : Int32) (gp : Int32) (bpapersc : Nat) (kbpapers : Nat) (fbpapers : Nat → Int32) (bpersonsc : Nat) (kbpersons : Nat) (fbpersons : Nat → Int32) : Prop := MP l G yX7_toldHour cX7_toldHour 6 (some .int) 4 [.ref h0, .int (nI je), .int (nI jt), .int su] [(h0, oX7 bb clk fi la ml mm sl sm scl), (la, iA G 12 fla), (ml, iA G 12 fml), (mm, iA G 12 fmm), (sl, iA G 12 fsl), (sm, iA G 12 fsm), (bb, oX0 bpersons bpapers bstamps bversions blines bsteps bsayings bfindings bwarnings bquestions td vd vl gp), (bpapers, oX8 12 6 bpapersc (nI kbpapers)), (bpapersc, iA G 72 fbpapers), (bpersons, oX8 10 2 bpersonsc (nI kbpersons)), (bpersonsc, iA G 20 fbpersons)] (fun r : Int32 => ∃ (r9:Int32), (ARV 1000000 (TOF (TCD K9 fbstamps V9 fbpapers fbpersons kbstamps kbpapers je su jt)) r9) ∧ r = r9)
set_option maxHeartbeats 4000000 in
set_option maxRecDepth 100000 in
theorem c_toldHourX (l : Launch) (G : GG) (K9 : Nat → Nat → Int → Prop) (V9 : Nat → Prop) (fbstamps : Nat → Int32) (kbstamps : Nat) (h0 : Nat) (je : Nat) (jt : Nat) (su : Int32) (bb : Nat) (clk : Nat) (fi : Nat) (la : Nat) (ml : Nat) (mm : Nat) (sl : Nat) (sm : Nat) (scl : Int32) (fla : Nat → Int32) (fml : Nat → Int32) (fmm : Nat → Int32) (fsl : Nat → Int32) (fsm : Nat → Int32) (bpersons : Nat) (bpapers : Nat) (bstamps : Nat) (bversions : Nat) (blines : Nat) (bsteps : Nat) (bsayings : Nat) (bfindings : Nat) (bwarnings : Nat) (bquestions : Nat) (td : Int32) (vd : Int32) (vl : Int32) (gp : Int32) (bpapersc : Nat) (kbpapers : Nat) (fbpapers : Nat → Int32) (bpersonsc : Nat) (kbpersons : Nat) (fbpersons : Nat → Int32) (hkbpapers : kbpapers ≤ 12) (hkbpersons : kbpersons ≤ 10) (hsg : SGQ K9 fbstamps V9 kbstamps scl fla fml fmm fsl fsm) (hSV : SVL fbstamps kbstamps) (hSL : PSL fbpersons) (hje : je < kbpersons) (hjt : jt < 8) : K_c_toldHourX l G K9 V9 fbstamps kbstamps h0 je jt su bb clk fi la ml mm sl sm scl fla fml fmm fsl fsm bpersons bpapers bstamps bversions blines bsteps bsayings bfindings bwarnings bquestions td vd vl gp bpapersc kbpapers fbpapers bpersonsc kbpersons fbpersons := by
  refine MP.start (by decide +kernel) (Nat.le_of_ble_eq_true rfl) ?_
  intro p e s m below meth c ls hC hK hP hD hl
  refine absQ (fun Q0 hQ0 => ?_)
  have hl : lv_has ls 6 [(0, .ref h0), (1, .int (nI je)), (2, .int (nI jt)), (3, .int su)] := hl
  refine Kan8 hC (fun hx hb hr hml hB hown hlocks hnm => ?_)
  refine lv_ldc hx hb hown (hB _ m_558) gX7_toldHour_0.1 ?_
  refine lv_istore (lv' := [(4, .int 1000000), (0, .ref h0), (1, .int (nI je)), (2, .int (nI jt)), (3, .int su)]) hx hb gX7_toldHour_0.2.1 hl (by decide) rfl (fun ls hl => ?_)
  refine lv_iconst (v := 0) hx hb gX7_toldHour_0.2.2.1 (by decide) ?_
  refine lv_istore (lv' := [(5, .int 0), (4, .int 1000000), (0, .ref h0), (1, .int (nI je)), (2, .int (nI jt)), (3, .int su)]) hx hb gX7_toldHour_0.2.2.2.1 hl (by decide) rfl (fun ls hl => ?_)
  have keyP : ∀ (nP kP : Nat) (le : Int32) (ls : Array Slot), kP + nP = kbpapers → (LST9 (TCD K9 fbstamps V9 fbpapers fbpersons kbstamps kP je su jt) 1000000 le) → lv_has ls 6 [(5, .int (nI kP)), (4, .int le), (0, .ref h0), (1, .int (nI je)), (2, .int (nI jt)), (3, .int su)] → W p l e (RM 4 0 0) s m ([.ref h0, .int (nI je), .int (nI jt), .int su] : List Value).toArray below meth c s.heap [] 0 0 Q0 (F0 m 7 ls []) := by
    intro nP
    induction nP with
    | zero =>
      intro kP le ls hkP hle hl
      obtain rfl : kbpapers = kP := by omega
      have hl : lv_has ls 6 [(5, .int (nI kbpapers)), (4, .int le), (0, .ref h0), (1, .int (nI je)), (2, .int (nI jt)), (3, .int su)] := hl
      refine lv_iload hx hb gX7_toldHour_0.2.2.2.2.1 (lv_at0 hl) ?_
      refine lv_aload_n hx hb gX7_toldHour_0.2.2.2.2.2.1 rfl (lv_at2 hl) ?_
      refine gf_X7_37 hC rfl hK hP 0 rfl rfl gX7_toldHour_0.2.2.2.2.2.2.1 ?_
      refine gf_X7_94 hC rfl hK hP 6 rfl rfl gX7_toldHour_0.2.2.2.2.2.2.2.1 ?_
      refine pV hC hK hl hP hD (c_T_count l G bpapers 12 6 bpapersc kbpapers) si_X7_54 [7] sm_7 fm_7 nd_7 rfl rfl rfl rfl rfl (Nat.le_of_ble_eq_true rfl) rm_4_1_1 ⟨by first | exact Nat.le_of_ble_eq_true rfl | exact Nat.zero_le _, by first | exact Nat.le_of_ble_eq_true rfl | exact Nat.zero_le _⟩ gX7_toldHour_0.2.2.2.2.2.2.2.2.1 (Keqr ?_)
      refine lv_icmp_ge (tgt := 76) hx hb gX7_toldHour_0.2.2.2.2.2.2.2.2.2 (by decide) (fun _ => ?_) (fun c9 => absurd (Int32.le_refl _) c9)
      refine lv_iload hx hb gX7_toldHour_3.2.2.2.2.2.1 (lv_at1 hl) ?_
      refine toQ hQ0 ?_
      exact RP (v := le) hC (⟨_, LST9.tof hle, rfl⟩) rfl gX7_toldHour_3.2.2.2.2.2.2
    | succ nP ihP =>
      intro kP le ls hkP hle hl
      refine lv_iload hx hb gX7_toldHour_0.2.2.2.2.1 (lv_at0 hl) ?_
      refine lv_aload_n hx hb gX7_toldHour_0.2.2.2.2.2.1 rfl (lv_at2 hl) ?_
      refine gf_X7_37 hC rfl hK hP 0 rfl rfl gX7_toldHour_0.2.2.2.2.2.2.1 ?_
      refine gf_X7_94 hC rfl hK hP 6 rfl rfl gX7_toldHour_0.2.2.2.2.2.2.2.1 ?_
      refine pV hC hK hl hP hD (c_T_count l G bpapers 12 6 bpapersc kbpapers) si_X7_54 [7] sm_7 fm_7 nd_7 rfl rfl rfl rfl rfl (Nat.le_of_ble_eq_true rfl) rm_4_1_1 ⟨by first | exact Nat.le_of_ble_eq_true rfl | exact Nat.zero_le _, by first | exact Nat.le_of_ble_eq_true rfl | exact Nat.zero_le _⟩ gX7_toldHour_0.2.2.2.2.2.2.2.2.1 (Keqr ?_)
      refine lv_icmp_ge (tgt := 76) hx hb gX7_toldHour_0.2.2.2.2.2.2.2.2.2 (by decide) (fun c9 => absurd c9 (nI_ge (a := kP) (b := kbpapers) (by omega) (by omega))) (fun _ => ?_)
      refine lv_aload_n hx hb gX7_toldHour_1.1 rfl (lv_at2 hl) ?_
      refine gf_X7_37 hC rfl hK hP 0 rfl rfl gX7_toldHour_1.2.1 ?_
      refine gf_X7_94 hC rfl hK hP 6 rfl rfl gX7_toldHour_1.2.2.1 ?_
      refine lv_iload hx hb gX7_toldHour_1.2.2.2.1 (lv_at0 hl) ?_
      refine lv_iconst (v := 2) hx hb gX7_toldHour_1.2.2.2.2.1 (by decide) ?_
      refine pV hC hK hl hP hD (c_T_at l G bpapers (nI kP) 2 12 6 bpapersc kbpapers fbpapers (hkbpapers) (by omega) (by omega)) si_X7_60 [7, 8] sm_7_8 fm_7_8 nd_7_8 rfl rfl rfl rfl rfl (Nat.le_of_ble_eq_true rfl) rm_4_1_3 ⟨by first | exact Nat.le_of_ble_eq_true rfl | exact Nat.zero_le _, by first | exact Nat.le_of_ble_eq_true rfl | exact Nat.zero_le _⟩ gX7_toldHour_1.2.2.2.2.2.1 (fun r3987 hr3987 => ?_)
      refine eqi (x1 := fbpapers (kP * 6 + 2)) (hr3987.trans (tatq (by omega) (by omega) (by decide) (by decide) rfl)) ?_
      refine lv_iload_n hx hb gX7_toldHour_1.2.2.2.2.2.2.1 rfl (lv_at4 hl) ?_
      refine pSN hC hK hl (c_hasBit l G (fbpapers (kP * 6 + 2)) (nI jt)) si_X7_68 rfl rfl (Nat.le_of_ble_eq_true rfl) rm_4_1_2 ⟨by first | exact Nat.le_of_ble_eq_true rfl | exact Nat.zero_le _, by first | exact Nat.le_of_ble_eq_true rfl | exact Nat.zero_le _⟩ gX7_toldHour_1.2.2.2.2.2.2.2.1 (Kors (Keqa fun a3990 => ?_) (Keqa fun a3990 => ?_))
      · refine lv_if_eq (tgt := 70) hx hb gX7_toldHour_1.2.2.2.2.2.2.2.2.1 (by decide) (fun c9 => absurd c9 (by decide)) (fun _ => ?_)
        refine lv_aload_n hx hb gX7_toldHour_1.2.2.2.2.2.2.2.2.2 rfl (lv_at2 hl) ?_
        refine lv_iload hx hb gX7_toldHour_2.1 (lv_at0 hl) ?_
        refine lv_iload_n hx hb gX7_toldHour_2.2.1 rfl (lv_at3 hl) ?_
        refine pV hC hK hl hP hD (c_isInHandX l G h0 kP je bb clk fi la ml mm sl sm scl fla bpersons bpapers bstamps bversions blines bsteps bsayings bfindings bwarnings bquestions td vd vl gp bpapersc kbpapers fbpapers (hkbpapers) (by omega) (by omega)) si_X7_101 [0, 1, 6, 7, 8] sm_0_1_6_7_8 fm_0_1_6_7_8 nd_0_1_6_7_8 rfl rfl rfl rfl rfl (Nat.le_of_ble_eq_true rfl) rm_4_3_3 ⟨by first | exact Nat.le_of_ble_eq_true rfl | exact Nat.zero_le _, by first | exact Nat.le_of_ble_eq_true rfl | exact Nat.zero_le _⟩ gX7_toldHour_2.2.2.1 (Kors (Keqa fun a3992 => ?_) (Keqa fun a3992 => ?_))
        · refine lv_if_ne (tgt := 55) hx hb gX7_toldHour_2.2.2.2.1 (by decide) (fun _ => ?_) (fun c9 => absurd c9 (by decide))
          refine lv_iload hx hb gX7_toldHour_2.2.2.2.2.2.1 (lv_at1 hl) ?_
          refine lv_aload_n hx hb gX7_toldHour_2.2.2.2.2.2.2.1 rfl (lv_at2 hl) ?_
          refine lv_iload hx hb gX7_toldHour_2.2.2.2.2.2.2.2.1 (lv_at0 hl) ?_
          refine lv_iload_n hx hb gX7_toldHour_2.2.2.2.2.2.2.2.2.1 rfl (lv_at3 hl) ?_
          refine lv_iload_n hx hb gX7_toldHour_2.2.2.2.2.2.2.2.2.2 rfl (lv_at5 hl) ?_
          refine pV hC hK hl hP hD (c_handHourX l G h0 kP je su bb clk fi la ml mm sl sm scl fla fml fmm fsl fsm bpersons bpapers bstamps bversions blines bsteps bsayings bfindings bwarnings bquestions td vd vl gp bpapersc kbpapers fbpapers bpersonsc kbpersons fbpersons (hkbpapers) (hkbpersons) (a3992.1) (by omega) (hje)) si_X7_104 [0, 1, 2, 3, 4, 5, 6, 7, 8, 9, 10] sm_0_1_2_3_4_5_6_7_8_9_10 fm_0_1_2_3_4_5_6_7_8_9_10 nd_0_1_2_3_4_5_6_7_8_9_10 rfl rfl rfl rfl rfl (Nat.le_of_ble_eq_true rfl) rm_4_3_4 ⟨by first | exact Nat.le_of_ble_eq_true rfl | exact Nat.zero_le _, by first | exact Nat.le_of_ble_eq_true rfl | exact Nat.zero_le _⟩ gX7_toldHour_3.1 (Kors (Keqa fun a3994 => ?_) (Kors (Keqa fun a3994 => ?_) (Kors (Keqa fun a3994 => ?_) (Keqa fun a3994 => ?_))))
          · refine va_mmin hx hb (hml.trans hl.1.symm) hown (hB _ m_561) (hB _ m_373) (hB _ m_105) (hB _ m_374) (Nat.le_of_ble_eq_true rfl) (Nat.le_of_ble_eq_true rfl) (by first | exact Nat.le_of_ble_eq_true rfl | exact Nat.zero_le _)  (by first | exact Nat.le_of_ble_eq_true rfl | exact Nat.zero_le _) gX7_toldHour_3.2.1 ?_
            refine eqi (x1 := IMN le (fmm kP)) (rfl) ?_
            refine lv_istore (lv' := [(4, .int (IMN le (fmm kP))), (5, .int (nI kP)), (0, .ref h0), (1, .int (nI je)), (2, .int (nI jt)), (3, .int su)]) hx hb gX7_toldHour_3.2.2.1 hl (by decide) rfl (fun ls hl => ?_)
            refine lv_iinc (v := nI (kP + 1)) (lv' := [(5, .int (nI (kP + 1))), (4, .int (IMN le (fmm kP))), (0, .ref h0), (1, .int (nI je)), (2, .int (nI jt)), (3, .int su)]) hx hb gX7_toldHour_3.2.2.2.1 hl (k := 1) rfl (nI_1 _) (by decide) rfl (fun ls hl => ?_)
            refine lv_goto (tgt := 7) hx hb gX7_toldHour_3.2.2.2.2.1 (by decide) ?_
            have hst9 : LST9 (TCD K9 fbstamps V9 fbpapers fbpersons kbstamps (kP + 1) je su jt) 1000000 (IMN le (fmm kP)) := hle.tk hSV (hSL je (by omega)).1 (hSL je (by omega)).2 (by decide) (TC1.mk a3990 (INQ.made hsg (by omega) a3992.1 a3994.1) (Or.inr ⟨a3994.2, rfl⟩))
            exact ihP (kP + 1) (IMN le (fmm kP)) _ (by omega) (by first | assumption | exact Or.inl rfl | exact Or.inr rfl | exact LST9.zero) (lv_sub hl [0, 1, 2, 3, 4, 5] rfl)
          · refine va_mmin hx hb (hml.trans hl.1.symm) hown (hB _ m_561) (hB _ m_373) (hB _ m_105) (hB _ m_374) (Nat.le_of_ble_eq_true rfl) (Nat.le_of_ble_eq_true rfl) (by first | exact Nat.le_of_ble_eq_true rfl | exact Nat.zero_le _)  (by first | exact Nat.le_of_ble_eq_true rfl | exact Nat.zero_le _) gX7_toldHour_3.2.1 ?_
            refine eqi (x1 := IMN le (fml kP)) (rfl) ?_
            refine lv_istore (lv' := [(4, .int (IMN le (fml kP))), (5, .int (nI kP)), (0, .ref h0), (1, .int (nI je)), (2, .int (nI jt)), (3, .int su)]) hx hb gX7_toldHour_3.2.2.1 hl (by decide) rfl (fun ls hl => ?_)
            refine lv_iinc (v := nI (kP + 1)) (lv' := [(5, .int (nI (kP + 1))), (4, .int (IMN le (fml kP))), (0, .ref h0), (1, .int (nI je)), (2, .int (nI jt)), (3, .int su)]) hx hb gX7_toldHour_3.2.2.2.1 hl (k := 1) rfl (nI_1 _) (by decide) rfl (fun ls hl => ?_)
            refine lv_goto (tgt := 7) hx hb gX7_toldHour_3.2.2.2.2.1 (by decide) ?_
            have hst9 : LST9 (TCD K9 fbstamps V9 fbpapers fbpersons kbstamps (kP + 1) je su jt) 1000000 (IMN le (fml kP)) := hle.tk hSV (hSL je (by omega)).1 (hSL je (by omega)).2 (by decide) (TC1.mk a3990 (INQ.made hsg (by omega) a3992.1 a3994.1) (Or.inl ⟨a3994.2, rfl⟩))
            exact ihP (kP + 1) (IMN le (fml kP)) _ (by omega) (by first | assumption | exact Or.inl rfl | exact Or.inr rfl | exact LST9.zero) (lv_sub hl [0, 1, 2, 3, 4, 5] rfl)
          · refine va_mmin hx hb (hml.trans hl.1.symm) hown (hB _ m_561) (hB _ m_373) (hB _ m_105) (hB _ m_374) (Nat.le_of_ble_eq_true rfl) (Nat.le_of_ble_eq_true rfl) (by first | exact Nat.le_of_ble_eq_true rfl | exact Nat.zero_le _)  (by first | exact Nat.le_of_ble_eq_true rfl | exact Nat.zero_le _) gX7_toldHour_3.2.1 ?_
            refine eqi (x1 := IMN le (fsm kP + fbpersons (je * 2 + 1))) (rfl) ?_
            refine lv_istore (lv' := [(4, .int (IMN le (fsm kP + fbpersons (je * 2 + 1)))), (5, .int (nI kP)), (0, .ref h0), (1, .int (nI je)), (2, .int (nI jt)), (3, .int su)]) hx hb gX7_toldHour_3.2.2.1 hl (by decide) rfl (fun ls hl => ?_)
            refine lv_iinc (v := nI (kP + 1)) (lv' := [(5, .int (nI (kP + 1))), (4, .int (IMN le (fsm kP + fbpersons (je * 2 + 1)))), (0, .ref h0), (1, .int (nI je)), (2, .int (nI jt)), (3, .int su)]) hx hb gX7_toldHour_3.2.2.2.1 hl (k := 1) rfl (nI_1 _) (by decide) rfl (fun ls hl => ?_)
            refine lv_goto (tgt := 7) hx hb gX7_toldHour_3.2.2.2.2.1 (by decide) ?_
            have hst9 : LST9 (TCD K9 fbstamps V9 fbpapers fbpersons kbstamps (kP + 1) je su jt) 1000000 (IMN le (fsm kP + fbpersons (je * 2 + 1))) := hle.tk hSV (hSL je (by omega)).1 (hSL je (by omega)).2 (by decide) (TC1.mk a3990 (INQ.sent hsg (by omega) a3992.1 a3994.1 (a3992.2.resolve_left a3994.1)) (Or.inr ⟨a3994.2, rfl⟩))
            exact ihP (kP + 1) (IMN le (fsm kP + fbpersons (je * 2 + 1))) _ (by omega) (by first | assumption | exact Or.inl rfl | exact Or.inr rfl | exact LST9.zero) (lv_sub hl [0, 1, 2, 3, 4, 5] rfl)
          · refine va_mmin hx hb (hml.trans hl.1.symm) hown (hB _ m_561) (hB _ m_373) (hB _ m_105) (hB _ m_374) (Nat.le_of_ble_eq_true rfl) (Nat.le_of_ble_eq_true rfl) (by first | exact Nat.le_of_ble_eq_true rfl | exact Nat.zero_le _)  (by first | exact Nat.le_of_ble_eq_true rfl | exact Nat.zero_le _) gX7_toldHour_3.2.1 ?_
            refine eqi (x1 := IMN le (fsl kP)) (rfl) ?_
            refine lv_istore (lv' := [(4, .int (IMN le (fsl kP))), (5, .int (nI kP)), (0, .ref h0), (1, .int (nI je)), (2, .int (nI jt)), (3, .int su)]) hx hb gX7_toldHour_3.2.2.1 hl (by decide) rfl (fun ls hl => ?_)
            refine lv_iinc (v := nI (kP + 1)) (lv' := [(5, .int (nI (kP + 1))), (4, .int (IMN le (fsl kP))), (0, .ref h0), (1, .int (nI je)), (2, .int (nI jt)), (3, .int su)]) hx hb gX7_toldHour_3.2.2.2.1 hl (k := 1) rfl (nI_1 _) (by decide) rfl (fun ls hl => ?_)
            refine lv_goto (tgt := 7) hx hb gX7_toldHour_3.2.2.2.2.1 (by decide) ?_
            have hst9 : LST9 (TCD K9 fbstamps V9 fbpapers fbpersons kbstamps (kP + 1) je su jt) 1000000 (IMN le (fsl kP)) := hle.tk hSV (hSL je (by omega)).1 (hSL je (by omega)).2 (by decide) (TC1.mk a3990 (INQ.sent hsg (by omega) a3992.1 a3994.1 (a3992.2.resolve_left a3994.1)) (Or.inl ⟨a3994.2, rfl⟩))
            exact ihP (kP + 1) (IMN le (fsl kP)) _ (by omega) (by first | assumption | exact Or.inl rfl | exact Or.inr rfl | exact LST9.zero) (lv_sub hl [0, 1, 2, 3, 4, 5] rfl)
        · refine lv_if_ne (tgt := 55) hx hb gX7_toldHour_2.2.2.2.1 (by decide) (fun c9 => absurd (by decide) c9) (fun _ => ?_)
          refine lv_goto (tgt := 70) hx hb gX7_toldHour_2.2.2.2.2.1 (by decide) ?_
          refine lv_iinc (v := nI (kP + 1)) (lv' := [(5, .int (nI (kP + 1))), (4, .int le), (0, .ref h0), (1, .int (nI je)), (2, .int (nI jt)), (3, .int su)]) hx hb gX7_toldHour_3.2.2.2.1 hl (k := 0) rfl (nI_1 _) (by decide) rfl (fun ls hl => ?_)
          refine lv_goto (tgt := 7) hx hb gX7_toldHour_3.2.2.2.2.1 (by decide) ?_
          have hst9 : LST9 (TCD K9 fbstamps V9 fbpapers fbpersons kbstamps (kP + 1) je su jt) 1000000 le := hle.sk (TC1.n2 (NIQ.of hsg (by omega) a3992))
          exact ihP (kP + 1) le _ (by omega) (by first | assumption | exact Or.inl rfl | exact Or.inr rfl | exact LST9.zero) (lv_sub hl [0, 1, 2, 3, 4, 5] rfl)
      · refine lv_if_eq (tgt := 70) hx hb gX7_toldHour_1.2.2.2.2.2.2.2.2.1 (by decide) (fun _ => ?_) (fun c9 => absurd (by decide) c9)
        refine lv_iinc (v := nI (kP + 1)) (lv' := [(5, .int (nI (kP + 1))), (4, .int le), (0, .ref h0), (1, .int (nI je)), (2, .int (nI jt)), (3, .int su)]) hx hb gX7_toldHour_3.2.2.2.1 hl (k := 0) rfl (nI_1 _) (by decide) rfl (fun ls hl => ?_)
        refine lv_goto (tgt := 7) hx hb gX7_toldHour_3.2.2.2.2.1 (by decide) ?_
        have hst9 : LST9 (TCD K9 fbstamps V9 fbpapers fbpersons kbstamps (kP + 1) je su jt) 1000000 le := hle.sk (TC1.n1 a3990)
        exact ihP (kP + 1) le _ (by omega) (by first | assumption | exact Or.inl rfl | exact Or.inr rfl | exact LST9.zero) (lv_sub hl [0, 1, 2, 3, 4, 5] rfl)
  exact keyP kbpapers 0 1000000 _ (by omega) (by first | assumption | exact Or.inl rfl | exact Or.inr rfl | exact LST9.zero) (lv_sub hl [0, 1, 2, 3, 4, 5] rfl)
def K_c_settleX (l : Launch) (G : GG) (K9 : Nat → Nat → Int → Prop) (V9 : Nat → Prop) (VL : Nat → List LNT) (VC : Nat → Nat → List Int32) (DY : Nat → Int32) (fbstamps : Nat → Int32) (kbstamps : Nat) (h0 : Nat) (je : Nat) (pp : Int32) (bb : Nat) (sg : Nat) (fc : Nat) (sh : Nat) (r1 : Int32) (rc : Int32) (rh : Int32) (ffc : Nat → Int32) (fsh : Nat → Int32) (clk : Nat) (fi : Nat) (la : Nat) (ml : Nat) (mm : Nat) (sl : Nat) (sm : Nat) (scl : Int32) (fla : Nat → Int32) (fml : Nat → Int32) (fmm : Nat → Int32) (fsl : Nat → Int32) (fsm : Nat → Int32) (bpersons : Nat) (bpapers : Nat) (bstamps : Nat) (bversions : Nat) (blines : Nat) (bsteps : Nat) (bsayings : Nat) (bfindings : Nat) (bwarnings : Nat) (bquestions : Nat) (td : Int32) (vd : Int32) (vl : Int32) (gp : Int32) (bversionsc : Nat) (kbversions : Nat) (fbversions : Nat → Int32) (bpersonsc : Nat) (kbpersons : Nat) (fbpersons : Nat → Int32) (bpapersc : Nat) (kbpapers : Nat) (fbpapers : Nat → Int32) (blinesc : Nat) (kblines : Nat) (fblines : Nat → Int32) (bstepsc : Nat) (kbsteps : Nat) (fbsteps : Nat → Int32) : Prop := MV l G yX6_settle cX6_settle 5 5 0 0 [.ref h0, .int (nI je), .int pp] [(h0, oX6 bb sg fc sh r1 rc rh), (fc, iA G 5 ffc), (sh, iA G 8 fsh), (sg, oX7 bb clk fi la ml mm sl sm scl), (la, iA G 12 fla), (ml, iA G 12 fml), (mm, iA G 12 fmm), (sl, iA G 12 fsl), (sm, iA G 12 fsm), (bb, oX0 bpersons bpapers bstamps bversions blines bsteps bsayings bfindings bwarnings bquestions td vd vl gp), (bversions, oX8 8 3 bversionsc (nI kbversions)), (bversionsc, iA G 24 fbversions), (bpersons, oX8 10 2 bpersonsc (nI kbpersons)), (bpersonsc, iA G 20 fbpersons), (bpapers, oX8 12 6 bpapersc (nI kbpapers)), (bpapersc, iA G 72 fbpapers), (blines, oX8 72 7 blinesc (nI kblines)), (blinesc, iA G 504 fblines), (bsteps, oX8 960 1 bstepsc (nI kbsteps)), (bstepsc, iA G 960 fbsteps)] (fun u : Int32 × Nat × Int32 × (Nat → Int32) × (Nat → Int32) => u.2.1 = LVN (RLO DY (DAYV td vd) kbversions) VL ∧ RUP fblines kblines u.1 u.2.1 u.2.2.1 (LNF (RLO DY (DAYV td vd) kbversions) VL) (TRF (RLO DY (DAYV td vd) kbversions) VC (FAX fbpersons fbpapers (VPP pp) kbpapers je)) ∧ ARS 1000000 (SHF K9 fbstamps V9 fbpapers fbpersons kbstamps kbpapers je (LVF (LNF (RLO DY (DAYV td vd) kbversions) VL) (TRF (RLO DY (DAYV td vd) kbversions) VC (FAX fbpersons fbpapers (VPP pp) kbpapers je))) u.2.1) u.2.2.2.2) (fun u : Int32 × Nat × Int32 × (Nat → Int32) × (Nat → Int32) => [(h0, oX6 bb sg fc sh u.1 (nI u.2.1) u.2.2.1), (fc, iA G 5 u.2.2.2.1), (sh, iA G 8 u.2.2.2.2), (sg, oX7 bb clk fi la ml mm sl sm scl), (la, iA G 12 fla), (ml, iA G 12 fml), (mm, iA G 12 fmm), (sl, iA G 12 fsl), (sm, iA G 12 fsm), (bb, oX0 bpersons bpapers bstamps bversions blines bsteps bsayings bfindings bwarnings bquestions td vd vl gp), (bversions, oX8 8 3 bversionsc (nI kbversions)), (bversionsc, iA G 24 fbversions), (bpersons, oX8 10 2 bpersonsc (nI kbpersons)), (bpersonsc, iA G 20 fbpersons), (bpapers, oX8 12 6 bpapersc (nI kbpapers)), (bpapersc, iA G 72 fbpapers), (blines, oX8 72 7 blinesc (nI kblines)), (blinesc, iA G 504 fblines), (bsteps, oX8 960 1 bstepsc (nI kbsteps)), (bstepsc, iA G 960 fbsteps)])
set_option maxHeartbeats 4000000 in
set_option maxRecDepth 100000 in
theorem c_settleX (l : Launch) (G : GG) (K9 : Nat → Nat → Int → Prop) (V9 : Nat → Prop) (VL : Nat → List LNT) (VC : Nat → Nat → List Int32) (DY : Nat → Int32) (fbstamps : Nat → Int32) (kbstamps : Nat) (h0 : Nat) (je : Nat) (pp : Int32) (bb : Nat) (sg : Nat) (fc : Nat) (sh : Nat) (r1 : Int32) (rc : Int32) (rh : Int32) (ffc : Nat → Int32) (fsh : Nat → Int32) (clk : Nat) (fi : Nat) (la : Nat) (ml : Nat) (mm : Nat) (sl : Nat) (sm : Nat) (scl : Int32) (fla : Nat → Int32) (fml : Nat → Int32) (fmm : Nat → Int32) (fsl : Nat → Int32) (fsm : Nat → Int32) (bpersons : Nat) (bpapers : Nat) (bstamps : Nat) (bversions : Nat) (blines : Nat) (bsteps : Nat) (bsayings : Nat) (bfindings : Nat) (bwarnings : Nat) (bquestions : Nat) (td : Int32) (vd : Int32) (vl : Int32) (gp : Int32) (bversionsc : Nat) (kbversions : Nat) (fbversions : Nat → Int32) (bpersonsc : Nat) (kbpersons : Nat) (fbpersons : Nat → Int32) (bpapersc : Nat) (kbpapers : Nat) (fbpapers : Nat → Int32) (blinesc : Nat) (kblines : Nat) (fblines : Nat → Int32) (bstepsc : Nat) (kbsteps : Nat) (fbsteps : Nat → Int32) (hkbversions : kbversions ≤ 8) (hkbpersons : kbpersons ≤ 10) (hkbpapers : kbpapers ≤ 12) (hkblines : kblines ≤ 72) (hkbsteps : kbsteps ≤ 960) (hVZ : VCZ fbversions fblines fbsteps kbversions kblines kbsteps VL VC DY) (hsg : SGQ K9 fbstamps V9 kbstamps scl fla fml fmm fsl fsm) (hSV : SVL fbstamps kbstamps) (hSL : PSL fbpersons) (hje : je < kbpersons) : K_c_settleX l G K9 V9 VL VC DY fbstamps kbstamps h0 je pp bb sg fc sh r1 rc rh ffc fsh clk fi la ml mm sl sm scl fla fml fmm fsl fsm bpersons bpapers bstamps bversions blines bsteps bsayings bfindings bwarnings bquestions td vd vl gp bversionsc kbversions fbversions bpersonsc kbpersons fbpersons bpapersc kbpapers fbpapers blinesc kblines fblines bstepsc kbsteps fbsteps := by
  refine MV.start (by decide +kernel) (Nat.le_of_ble_eq_true rfl) ?_
  intro p e s m below meth c A ls hC hK hP hD hS hA hl
  refine absQ (fun Q0 hQ0 => ?_)
  have hl : lv_has ls 5 [(0, .ref h0), (1, .int (nI je)), (2, .int pp)] := hl
  refine Kan8 hC (fun hx hb hr hml hB hown hlocks hnm => ?_)
  refine lv_aload_n hx hb gX6_settle_0.1 rfl (lv_at0 hl) ?_
  refine lv_iload_n hx hb gX6_settle_0.2.1 rfl (lv_at1 hl) ?_
  refine lv_iload_n hx hb gX6_settle_0.2.2.1 rfl (lv_at2 hl) ?_
  refine vV (wr := [(sh, iA G 8 fsh), (sg, oX7 bb clk fi la ml mm sl sm scl), (la, iA G 12 fla), (ml, iA G 12 fml), (mm, iA G 12 fmm), (sl, iA G 12 fsl), (sm, iA G 12 fsm)]) hC hK hl hP hD hS hA (c_considerX l G VL VC DY h0 je pp bb sg fc sh r1 rc rh ffc bpersons bpapers bstamps bversions blines bsteps bsayings bfindings bwarnings bquestions td vd vl gp bversionsc kbversions fbversions bpersonsc kbpersons fbpersons bpapersc kbpapers fbpapers blinesc kblines fblines bstepsc kbsteps fbsteps (hkbversions) (hkbpersons) (hkbpapers) (hkblines) (hkbsteps) (hVZ) (hje)) si_X6_74 [0, 1, 9, 10, 11, 12, 13, 14, 15, 16, 17, 18, 19] [2, 3, 4, 5, 6, 7, 8] sm_0_1_9_10_11_12_13_14_15_16_17_18_19 fm_0_1_9_10_11_12_13_14_15_16_17_18_19 nd_0_1_9_10_11_12_13_14_15_16_17_18_19 sm_2_3_4_5_6_7_8 nd_2_3_4_5_6_7_8 dj_0_1_9_10_11_12_13_14_15_16_17_18_19__2_3_4_5_6_7_8 rfl rfl rfl rfl rfl (Nat.le_of_ble_eq_true rfl) rm_5_4_5 ⟨Nat.le_of_ble_eq_true rfl, Nat.le_of_ble_eq_true rfl⟩ gX6_settle_0.2.2.2.1 (Ktu4 fun r113997 cn13998 rh13999 gfc4000 => ?_)
  intro H locs hr3995 hP hD hS
  try dsimp only at hr3995
  refine Kpdr (ws := [(sh, iA G 8 fsh), (sg, oX7 bb clk fi la ml mm sl sm scl), (la, iA G 12 fla), (ml, iA G 12 fml), (mm, iA G 12 fmm), (sl, iA G 12 fsl), (sm, iA G 12 fsm), (h0, oX6 bb sg fc sh r113997 (nI cn13998) rh13999), (fc, iA G 5 gfc4000), (bb, oX0 bpersons bpapers bstamps bversions blines bsteps bsayings bfindings bwarnings bquestions td vd vl gp), (bversions, oX8 8 3 bversionsc (nI kbversions)), (bversionsc, iA G 24 fbversions), (bpersons, oX8 10 2 bpersonsc (nI kbpersons)), (bpersonsc, iA G 20 fbpersons), (bpapers, oX8 12 6 bpapersc (nI kbpapers)), (bpapersc, iA G 72 fbpapers), (blines, oX8 72 7 blinesc (nI kblines)), (blinesc, iA G 504 fblines), (bsteps, oX8 960 1 bstepsc (nI kbsteps)), (bstepsc, iA G 960 fbsteps)]) hP hD (fun hP hD => ?_)
  have hu4002 := hr3995.1
  have hu4003 := hr3995.2
  refine lv_iconst (v := 0) hx hb gX6_settle_0.2.2.2.2.1 (by decide) ?_
  refine lv_istore_n (lv' := [(3, .int 0), (0, .ref h0), (1, .int (nI je)), (2, .int pp)]) hx hb gX6_settle_0.2.2.2.2.2.1 rfl hl (by decide) rfl (fun ls hl => ?_)
  have hRU := hu4003
  have hlb9 := hRU.lvb
  have hcn9 := hRU.1
  have hb09 : HBD (S0F K9 fbstamps V9 fbpapers fbpersons kbstamps kbpapers je) := S0F.hbd hSV (hSL je (by omega)).1 (hSL je (by omega)).2
  have keyP : ∀ (nP kP : Nat) (vsh : Nat → Int32) (H : Heap) (locs : List Loc) (ls : Array Slot), kP + nP = 8 → (TDP 1000000 (S0F K9 fbstamps V9 fbpapers fbpersons kbstamps kbpapers je) vsh kP) → va_PD G A [(sh, iA G 8 vsh), (sg, oX7 bb clk fi la ml mm sl sm scl), (la, iA G 12 fla), (ml, iA G 12 fml), (mm, iA G 12 fmm), (sl, iA G 12 fsl), (sm, iA G 12 fsm), (h0, oX6 bb sg fc sh r113997 (nI cn13998) rh13999), (fc, iA G 5 gfc4000), (bb, oX0 bpersons bpapers bstamps bversions blines bsteps bsayings bfindings bwarnings bquestions td vd vl gp), (bversions, oX8 8 3 bversionsc (nI kbversions)), (bversionsc, iA G 24 fbversions), (bpersons, oX8 10 2 bpersonsc (nI kbpersons)), (bpersonsc, iA G 20 fbpersons), (bpapers, oX8 12 6 bpapersc (nI kbpapers)), (bpapersc, iA G 72 fbpapers), (blines, oX8 72 7 blinesc (nI kblines)), (blinesc, iA G 504 fblines), (bsteps, oX8 960 1 bstepsc (nI kbsteps)), (bstepsc, iA G 960 fbsteps)] H → va_S A s.heap H locs → lv_has ls 5 [(3, .int (nI kP)), (0, .ref h0), (1, .int (nI je)), (2, .int pp)] → W p l e (RM 5 0 0) s m ([.ref h0, .int (nI je), .int pp] : List Value).toArray below meth c H locs 0 0 Q0 (F0 m 8 ls []) := by
    intro nP
    induction nP with
    | zero =>
      intro kP vsh H locs ls hkP htd hPD hS hl
      refine Kan2 hPD (fun hP hD => ?_)
      obtain rfl : 8 = kP := by omega
      have hl : lv_has ls 5 [(3, .int 8), (0, .ref h0), (1, .int (nI je)), (2, .int pp)] := hl
      refine lv_iload_n hx hb gX6_settle_0.2.2.2.2.2.2.1 rfl (lv_at0 hl) ?_
      refine lv_bipush (v := 8) hx hb gX6_settle_0.2.2.2.2.2.2.2.1 (by decide) ?_
      refine lv_icmp_ge (tgt := 36) hx hb gX6_settle_0.2.2.2.2.2.2.2.2.1 (by decide) (fun _ => ?_) (fun c9 => absurd (by decide) c9)
      refine lv_iconst (v := 1) hx hb gX6_settle_2.2.1 (by decide) ?_
      refine lv_istore_n (lv' := [(3, .int 1), (0, .ref h0), (1, .int (nI je)), (2, .int pp)]) hx hb gX6_settle_2.2.2.1 rfl hl (by decide) rfl (fun ls hl => ?_)
      refine lv_iconst (v := 0) hx hb gX6_settle_2.2.2.2.1 (by decide) ?_
      refine lv_istore (lv' := [(4, .int 0), (3, .int 1), (0, .ref h0), (1, .int (nI je)), (2, .int pp)]) hx hb gX6_settle_2.2.2.2.2.1 hl (by decide) rfl (fun ls hl => ?_)
      have keyQ : ∀ (nQ kQ : Nat) (go9 : Int32) (wsh : Nat → Int32) (H : Heap) (locs : List Loc) (ls : Array Slot), kQ + nQ = 9 → ((go9 = 0 ∧ PSS (LVF (LNF (RLO DY (DAYV td vd) kbversions) VL) (TRF (RLO DY (DAYV td vd) kbversions) VC (FAX fbpersons fbpapers (VPP pp) kbpapers je))) cn13998 (PIT (LVF (LNF (RLO DY (DAYV td vd) kbversions) VL) (TRF (RLO DY (DAYV td vd) kbversions) VC (FAX fbpersons fbpapers (VPP pp) kbpapers je))) cn13998 kQ (S0F K9 fbstamps V9 fbpapers fbpersons kbstamps kbpapers je)) = PIT (LVF (LNF (RLO DY (DAYV td vd) kbversions) VL) (TRF (RLO DY (DAYV td vd) kbversions) VC (FAX fbpersons fbpapers (VPP pp) kbpapers je))) cn13998 kQ (S0F K9 fbstamps V9 fbpapers fbpersons kbstamps kbpapers je)) ∨ go9 = 1) → (ARS 1000000 (PIT (LVF (LNF (RLO DY (DAYV td vd) kbversions) VL) (TRF (RLO DY (DAYV td vd) kbversions) VC (FAX fbpersons fbpapers (VPP pp) kbpapers je))) cn13998 kQ (S0F K9 fbstamps V9 fbpapers fbpersons kbstamps kbpapers je)) wsh) → va_PD G A [(sh, iA G 8 wsh), (sg, oX7 bb clk fi la ml mm sl sm scl), (la, iA G 12 fla), (ml, iA G 12 fml), (mm, iA G 12 fmm), (sl, iA G 12 fsl), (sm, iA G 12 fsm), (h0, oX6 bb sg fc sh r113997 (nI cn13998) rh13999), (fc, iA G 5 gfc4000), (bb, oX0 bpersons bpapers bstamps bversions blines bsteps bsayings bfindings bwarnings bquestions td vd vl gp), (bversions, oX8 8 3 bversionsc (nI kbversions)), (bversionsc, iA G 24 fbversions), (bpersons, oX8 10 2 bpersonsc (nI kbpersons)), (bpersonsc, iA G 20 fbpersons), (bpapers, oX8 12 6 bpapersc (nI kbpapers)), (bpapersc, iA G 72 fbpapers), (blines, oX8 72 7 blinesc (nI kblines)), (blinesc, iA G 504 fblines), (bsteps, oX8 960 1 bstepsc (nI kbsteps)), (bstepsc, iA G 960 fbsteps)] H → va_S A s.heap H locs → lv_has ls 5 [(4, .int (nI kQ)), (3, .int go9), (0, .ref h0), (1, .int (nI je)), (2, .int pp)] → W p l e (RM 5 0 0) s m ([.ref h0, .int (nI je), .int pp] : List Value).toArray below meth c H locs 0 0 Q0 (F0 m 41 ls []) := by
        intro nQ
        induction nQ with
        | zero =>
          intro kQ go9 wsh H locs ls hkQ hgo hsw hPD hS hl
          refine Kan2 hPD (fun hP hD => ?_)
          obtain rfl : 9 = kQ := by omega
          have hl : lv_has ls 5 [(4, .int 9), (3, .int go9), (0, .ref h0), (1, .int (nI je)), (2, .int pp)] := hl
          refine lv_iload_n hx hb gX6_settle_2.2.2.2.2.2.1 rfl (lv_at1 hl) ?_
          refine lv_if_eq (tgt := 63) hx hb gX6_settle_2.2.2.2.2.2.2.1 (by decide) (fun c_42_4004 => ?_) (fun c_42_4004 => ?_)
          · refine toQ hQ0 ?_
            exact RV hC hP hD hS [7, 8, 0, 1, 2, 3, 4, 5, 6, 9, 10, 11, 12, 13, 14, 15, 16, 17, 18, 19] (r113997, cn13998, rh13999, gfc4000, wsh) rfl rfl (by decide) (⟨hu4002, hRU, hsw⟩) gX6_settle_3.2.2.2.2.2
          · refine lv_iload hx hb gX6_settle_2.2.2.2.2.2.2.2.1 (lv_at0 hl) ?_
            refine lv_bipush (v := 8) hx hb gX6_settle_2.2.2.2.2.2.2.2.2.1 (by decide) ?_
            refine lv_icmp_gt (tgt := 63) hx hb gX6_settle_2.2.2.2.2.2.2.2.2.2 (by decide) (fun _ => ?_) (fun c9 => absurd (by decide) c9)
            refine toQ hQ0 ?_
            exact RV hC hP hD hS [7, 8, 0, 1, 2, 3, 4, 5, 6, 9, 10, 11, 12, 13, 14, 15, 16, 17, 18, 19] (r113997, cn13998, rh13999, gfc4000, wsh) rfl rfl (by decide) (⟨hu4002, hRU, hsw⟩) gX6_settle_3.2.2.2.2.2
        | succ nQ ihQ =>
          intro kQ go9 wsh H locs ls hkQ hgo hsw hPD hS hl
          refine Kan2 hPD (fun hP hD => ?_)
          refine lv_iload_n hx hb gX6_settle_2.2.2.2.2.2.1 rfl (lv_at1 hl) ?_
          refine lv_if_eq (tgt := 63) hx hb gX6_settle_2.2.2.2.2.2.2.1 (by decide) (fun c_42_4005 => ?_) (fun c_42_4005 => ?_)
          · refine toQ hQ0 ?_
            exact RV hC hP hD hS [7, 8, 0, 1, 2, 3, 4, 5, 6, 9, 10, 11, 12, 13, 14, 15, 16, 17, 18, 19] (r113997, cn13998, rh13999, gfc4000, wsh) rfl rfl (by decide) (⟨hu4002, hRU, (by have e9 := hgo.elim (fun h9 => h9.2) (fun h9 => absurd (c_42_4005.symm.trans h9) (by decide)); unfold SHF; rw [PIT.to9 (by omega) e9]; exact hsw)⟩) gX6_settle_3.2.2.2.2.2
          · refine lv_iload hx hb gX6_settle_2.2.2.2.2.2.2.2.1 (lv_at0 hl) ?_
            refine lv_bipush (v := 8) hx hb gX6_settle_2.2.2.2.2.2.2.2.2.1 (by decide) ?_
            refine lv_icmp_gt (tgt := 63) hx hb gX6_settle_2.2.2.2.2.2.2.2.2.2 (by decide) (fun c9 => absurd c9 (nI_nlt (a := 8) (b := kQ) (by omega) (by omega))) (fun _ => ?_)
            have hbq9 : HBD (PIT (LVF (LNF (RLO DY (DAYV td vd) kbversions) VL) (TRF (RLO DY (DAYV td vd) kbversions) VC (FAX fbpersons fbpapers (VPP pp) kbpapers je))) cn13998 kQ (S0F K9 fbstamps V9 fbpapers fbpersons kbstamps kbpapers je)) := HBD.pit hb09 hlb9 kQ
            refine lv_aload_n hx hb gX6_settle_3.1 rfl (lv_at2 hl) ?_
            refine iV (wr := [(sg, oX7 bb clk fi la ml mm sl sm scl), (la, iA G 12 fla), (ml, iA G 12 fml), (mm, iA G 12 fmm), (sl, iA G 12 fsl), (sm, iA G 12 fsm), (fc, iA G 5 gfc4000), (bversions, oX8 8 3 bversionsc (nI kbversions)), (bversionsc, iA G 24 fbversions), (bpersons, oX8 10 2 bpersonsc (nI kbpersons)), (bpersonsc, iA G 20 fbpersons), (bpapers, oX8 12 6 bpapersc (nI kbpapers)), (bpapersc, iA G 72 fbpapers), (bsteps, oX8 960 1 bstepsc (nI kbsteps)), (bstepsc, iA G 960 fbsteps)]) hC hK hl hP hD hS hA (c_tellEarlierX l G (LNF (RLO DY (DAYV td vd) kbversions) VL) (TRF (RLO DY (DAYV td vd) kbversions) VC (FAX fbpersons fbpapers (VPP pp) kbpapers je)) (PIT (LVF (LNF (RLO DY (DAYV td vd) kbversions) VL) (TRF (RLO DY (DAYV td vd) kbversions) VC (FAX fbpersons fbpapers (VPP pp) kbpapers je))) cn13998 kQ (S0F K9 fbstamps V9 fbpapers fbpersons kbstamps kbpapers je)) h0 bb sg fc sh r113997 cn13998 rh13999 wsh bpersons bpapers bstamps bversions blines bsteps bsayings bfindings bwarnings bquestions td vd vl gp blinesc kblines fblines (hkblines) (hu4003) (hsw) (hbq9)) si_X6_84 [7, 0, 9, 16, 17] [1, 2, 3, 4, 5, 6, 8, 10, 11, 12, 13, 14, 15, 18, 19] sm_7_0_9_16_17 fm_7_0_9_16_17 nd_7_0_9_16_17 sm_1_2_3_4_5_6_8_10_11_12_13_14_15_18_19 nd_1_2_3_4_5_6_8_10_11_12_13_14_15_18_19 dj_7_0_9_16_17__1_2_3_4_5_6_8_10_11_12_13_14_15_18_19 rfl rfl rfl rfl rfl (Nat.le_of_ble_eq_true rfl) rm_5_4_4 ⟨Nat.le_of_ble_eq_true rfl, Nat.le_of_ble_eq_true rfl⟩ gX6_settle_3.2.1 (fun r4006 gsh4008 H locs hr4006 hP hD hS => ?_)
            try dsimp only at hr4006
            refine Kpdr (ws := [(sg, oX7 bb clk fi la ml mm sl sm scl), (la, iA G 12 fla), (ml, iA G 12 fml), (mm, iA G 12 fmm), (sl, iA G 12 fsl), (sm, iA G 12 fsm), (fc, iA G 5 gfc4000), (bversions, oX8 8 3 bversionsc (nI kbversions)), (bversionsc, iA G 24 fbversions), (bpersons, oX8 10 2 bpersonsc (nI kbpersons)), (bpersonsc, iA G 20 fbpersons), (bpapers, oX8 12 6 bpapersc (nI kbpapers)), (bpapersc, iA G 72 fbpapers), (bsteps, oX8 960 1 bstepsc (nI kbsteps)), (bstepsc, iA G 960 fbsteps), (h0, oX6 bb sg fc sh r113997 (nI cn13998) rh13999), (sh, iA G 8 gsh4008), (bb, oX0 bpersons bpapers bstamps bversions blines bsteps bsayings bfindings bwarnings bquestions td vd vl gp), (blines, oX8 72 7 blinesc (nI kblines)), (blinesc, iA G 504 fblines)]) hP hD (fun hP hD => ?_)
            obtain ⟨hr4006, w4009⟩ := hr4006
            rcases hr4006 with rfl | ⟨rfl, a4010⟩
            · refine lv_istore_n (lv' := [(3, .int 1), (4, .int (nI kQ)), (0, .ref h0), (1, .int (nI je)), (2, .int pp)]) hx hb gX6_settle_3.2.2.1 rfl hl (by decide) rfl (fun ls hl => ?_)
              refine lv_iinc (v := nI (kQ + 1)) (lv' := [(4, .int (nI (kQ + 1))), (3, .int 1), (0, .ref h0), (1, .int (nI je)), (2, .int pp)]) hx hb gX6_settle_3.2.2.2.1 hl (k := 1) rfl (nI_1 _) (by decide) rfl (fun ls hl => ?_)
              refine lv_goto (tgt := 41) hx hb gX6_settle_3.2.2.2.2.1 (by decide) ?_
              refine Kpds (ws' := [(sh, iA G 8 gsh4008), (sg, oX7 bb clk fi la ml mm sl sm scl), (la, iA G 12 fla), (ml, iA G 12 fml), (mm, iA G 12 fmm), (sl, iA G 12 fsl), (sm, iA G 12 fsm), (h0, oX6 bb sg fc sh r113997 (nI cn13998) rh13999), (fc, iA G 5 gfc4000), (bb, oX0 bpersons bpapers bstamps bversions blines bsteps bsayings bfindings bwarnings bquestions td vd vl gp), (bversions, oX8 8 3 bversionsc (nI kbversions)), (bversionsc, iA G 24 fbversions), (bpersons, oX8 10 2 bpersonsc (nI kbpersons)), (bpersonsc, iA G 20 fbpersons), (bpapers, oX8 12 6 bpapersc (nI kbpapers)), (bpapersc, iA G 72 fbpapers), (blines, oX8 72 7 blinesc (nI kblines)), (blinesc, iA G 504 fblines), (bsteps, oX8 960 1 bstepsc (nI kbsteps)), (bstepsc, iA G 960 fbsteps)]) hP hD [16, 0, 1, 2, 3, 4, 5, 15, 6, 17, 7, 8, 9, 10, 11, 12, 18, 19, 13, 14] fm_16_0_1_2_3_4_5_15_6_17_7_8_9_10_11_12_18_19_13_14 nd_16_0_1_2_3_4_5_15_6_17_7_8_9_10_11_12_18_19_13_14 sm_16_0_1_2_3_4_5_15_6_17_7_8_9_10_11_12_18_19_13_14 (fun hP hD => ?_)
              have hst8 : ((1 : Int32) = 0 ∧ PSS (LVF (LNF (RLO DY (DAYV td vd) kbversions) VL) (TRF (RLO DY (DAYV td vd) kbversions) VC (FAX fbpersons fbpapers (VPP pp) kbpapers je))) cn13998 (PIT (LVF (LNF (RLO DY (DAYV td vd) kbversions) VL) (TRF (RLO DY (DAYV td vd) kbversions) VC (FAX fbpersons fbpapers (VPP pp) kbpapers je))) cn13998 (kQ + 1) (S0F K9 fbstamps V9 fbpapers fbpersons kbstamps kbpapers je)) = PIT (LVF (LNF (RLO DY (DAYV td vd) kbversions) VL) (TRF (RLO DY (DAYV td vd) kbversions) VC (FAX fbpersons fbpapers (VPP pp) kbpapers je))) cn13998 (kQ + 1) (S0F K9 fbstamps V9 fbpapers fbpersons kbstamps kbpapers je)) ∨ (1 : Int32) = 1 := Or.inr rfl
              have hst9 : ARS 1000000 (PIT (LVF (LNF (RLO DY (DAYV td vd) kbversions) VL) (TRF (RLO DY (DAYV td vd) kbversions) VC (FAX fbpersons fbpapers (VPP pp) kbpapers je))) cn13998 (kQ + 1) (S0F K9 fbstamps V9 fbpapers fbpersons kbstamps kbpapers je)) gsh4008 := w4009
              exact ihQ (kQ + 1) 1 gsh4008 _ _ _ (by omega) (by first | assumption | exact Or.inl rfl | exact Or.inr rfl | exact htd) (by first | assumption | exact Or.inl rfl | exact Or.inr rfl | exact htd) (And.intro hP hD) hS (lv_sub hl [0, 1, 2, 3, 4] rfl)
            · refine lv_istore_n (lv' := [(3, .int 0), (4, .int (nI kQ)), (0, .ref h0), (1, .int (nI je)), (2, .int pp)]) hx hb gX6_settle_3.2.2.1 rfl hl (by decide) rfl (fun ls hl => ?_)
              refine lv_iinc (v := nI (kQ + 1)) (lv' := [(4, .int (nI (kQ + 1))), (3, .int 0), (0, .ref h0), (1, .int (nI je)), (2, .int pp)]) hx hb gX6_settle_3.2.2.2.1 hl (k := 1) rfl (nI_1 _) (by decide) rfl (fun ls hl => ?_)
              refine lv_goto (tgt := 41) hx hb gX6_settle_3.2.2.2.2.1 (by decide) ?_
              refine Kpds (ws' := [(sh, iA G 8 gsh4008), (sg, oX7 bb clk fi la ml mm sl sm scl), (la, iA G 12 fla), (ml, iA G 12 fml), (mm, iA G 12 fmm), (sl, iA G 12 fsl), (sm, iA G 12 fsm), (h0, oX6 bb sg fc sh r113997 (nI cn13998) rh13999), (fc, iA G 5 gfc4000), (bb, oX0 bpersons bpapers bstamps bversions blines bsteps bsayings bfindings bwarnings bquestions td vd vl gp), (bversions, oX8 8 3 bversionsc (nI kbversions)), (bversionsc, iA G 24 fbversions), (bpersons, oX8 10 2 bpersonsc (nI kbpersons)), (bpersonsc, iA G 20 fbpersons), (bpapers, oX8 12 6 bpapersc (nI kbpapers)), (bpapersc, iA G 72 fbpapers), (blines, oX8 72 7 blinesc (nI kblines)), (blinesc, iA G 504 fblines), (bsteps, oX8 960 1 bstepsc (nI kbsteps)), (bstepsc, iA G 960 fbsteps)]) hP hD [16, 0, 1, 2, 3, 4, 5, 15, 6, 17, 7, 8, 9, 10, 11, 12, 18, 19, 13, 14] fm_16_0_1_2_3_4_5_15_6_17_7_8_9_10_11_12_18_19_13_14 nd_16_0_1_2_3_4_5_15_6_17_7_8_9_10_11_12_18_19_13_14 sm_16_0_1_2_3_4_5_15_6_17_7_8_9_10_11_12_18_19_13_14 (fun hP hD => ?_)
              have hst8 : ((0 : Int32) = 0 ∧ PSS (LVF (LNF (RLO DY (DAYV td vd) kbversions) VL) (TRF (RLO DY (DAYV td vd) kbversions) VC (FAX fbpersons fbpapers (VPP pp) kbpapers je))) cn13998 (PIT (LVF (LNF (RLO DY (DAYV td vd) kbversions) VL) (TRF (RLO DY (DAYV td vd) kbversions) VC (FAX fbpersons fbpapers (VPP pp) kbpapers je))) cn13998 (kQ + 1) (S0F K9 fbstamps V9 fbpapers fbpersons kbstamps kbpapers je)) = PIT (LVF (LNF (RLO DY (DAYV td vd) kbversions) VL) (TRF (RLO DY (DAYV td vd) kbversions) VC (FAX fbpersons fbpapers (VPP pp) kbpapers je))) cn13998 (kQ + 1) (S0F K9 fbstamps V9 fbpapers fbpersons kbstamps kbpapers je)) ∨ (0 : Int32) = 1 := Or.inl ⟨rfl, PIT.sx a4010⟩
              have hst9 : ARS 1000000 (PIT (LVF (LNF (RLO DY (DAYV td vd) kbversions) VL) (TRF (RLO DY (DAYV td vd) kbversions) VC (FAX fbpersons fbpapers (VPP pp) kbpapers je))) cn13998 (kQ + 1) (S0F K9 fbstamps V9 fbpapers fbpersons kbstamps kbpapers je)) gsh4008 := w4009
              exact ihQ (kQ + 1) 0 gsh4008 _ _ _ (by omega) (by first | assumption | exact Or.inl rfl | exact Or.inr rfl | exact htd) (by first | assumption | exact Or.inl rfl | exact Or.inr rfl | exact htd) (And.intro hP hD) hS (lv_sub hl [0, 1, 2, 3, 4] rfl)
      exact keyQ 9 0 1 vsh _ _ _ (by omega) (by first | assumption | exact Or.inl rfl | exact Or.inr rfl | exact htd) (by first | assumption | exact Or.inl rfl | exact Or.inr rfl | exact htd) (And.intro hP hD) hS (lv_sub hl [0, 1, 2, 3, 4] rfl)
    | succ nP ihP =>
      intro kP vsh H locs ls hkP htd hPD hS hl
      refine Kan2 hPD (fun hP hD => ?_)
      refine lv_iload_n hx hb gX6_settle_0.2.2.2.2.2.2.1 rfl (lv_at0 hl) ?_
      refine lv_bipush (v := 8) hx hb gX6_settle_0.2.2.2.2.2.2.2.1 (by decide) ?_
      refine lv_icmp_ge (tgt := 36) hx hb gX6_settle_0.2.2.2.2.2.2.2.2.1 (by decide) (fun c9 => absurd c9 (nI_ge (a := kP) (b := 8) (by omega) (by omega))) (fun _ => ?_)
      refine lv_aload_n hx hb gX6_settle_0.2.2.2.2.2.2.2.2.2 rfl (lv_at1 hl) ?_
      refine gf_X6_15 hC rfl hK hP 7 rfl rfl gX6_settle_1.1 ?_
      refine lv_iload_n hx hb gX6_settle_1.2.1 rfl (lv_at0 hl) ?_
      refine lv_aload_n hx hb gX6_settle_1.2.2.1 rfl (lv_at1 hl) ?_
      refine gf_X6_22 hC rfl hK hP 7 rfl rfl gX6_settle_1.2.2.2.1 ?_
      refine lv_iload_n hx hb gX6_settle_1.2.2.2.2.1 rfl (lv_at2 hl) ?_
      refine lv_iload_n hx hb gX6_settle_1.2.2.2.2.2.1 rfl (lv_at0 hl) ?_
      refine lv_iconst (v := 1) hx hb gX6_settle_1.2.2.2.2.2.2.1 (by decide) ?_
      refine pV hC hK hl hP hD (c_toldHourX l G K9 V9 fbstamps kbstamps sg je kP 1 bb clk fi la ml mm sl sm scl fla fml fmm fsl fsm bpersons bpapers bstamps bversions blines bsteps bsayings bfindings bwarnings bquestions td vd vl gp bpapersc kbpapers fbpapers bpersonsc kbpersons fbpersons (hkbpapers) (hkbpersons) (hsg) (hSV) (hSL) (hje) (by omega)) si_X6_78 [1, 2, 3, 4, 5, 6, 9, 14, 15, 12, 13] sm_1_2_3_4_5_6_9_14_15_12_13 fm_1_2_3_4_5_6_9_14_15_12_13 nd_1_2_3_4_5_6_9_14_15_12_13 rfl rfl rfl rfl rfl (Nat.le_of_ble_eq_true rfl) rm_5_4_6 ⟨by first | exact Nat.le_of_ble_eq_true rfl | exact Nat.zero_le _, by first | exact Nat.le_of_ble_eq_true rfl | exact Nat.zero_le _⟩ gX6_settle_1.2.2.2.2.2.2.2.1 (fun r4011 hr4011 => ?_)
      obtain ⟨r9_4012, hpx4012, hpe4012⟩ := hr4011
      subst r4011
      try dsimp only at hpx4012
      refine astN hC hK hP hD hS 0 (ws' := [(sh, iA G 8 (upd vsh kP r9_4012)), (sg, oX7 bb clk fi la ml mm sl sm scl), (la, iA G 12 fla), (ml, iA G 12 fml), (mm, iA G 12 fmm), (sl, iA G 12 fsl), (sm, iA G 12 fsm), (h0, oX6 bb sg fc sh r113997 (nI cn13998) rh13999), (fc, iA G 5 gfc4000), (bb, oX0 bpersons bpapers bstamps bversions blines bsteps bsayings bfindings bwarnings bquestions td vd vl gp), (bversions, oX8 8 3 bversionsc (nI kbversions)), (bversionsc, iA G 24 fbversions), (bpersons, oX8 10 2 bpersonsc (nI kbpersons)), (bpersonsc, iA G 20 fbpersons), (bpapers, oX8 12 6 bpapersc (nI kbpapers)), (bpapersc, iA G 72 fbpapers), (blines, oX8 72 7 blinesc (nI kblines)), (blinesc, iA G 504 fblines), (bsteps, oX8 960 1 bstepsc (nI kbsteps)), (bstepsc, iA G 960 fbsteps)]) rfl (k := kP) (by omega) (Nat.le_of_ble_eq_true rfl) (rfl) gX6_settle_1.2.2.2.2.2.2.2.2.1 (fun H locs hP hD hS => ?_)
      refine lv_iinc (v := nI (kP + 1)) (lv' := [(3, .int (nI (kP + 1))), (0, .ref h0), (1, .int (nI je)), (2, .int pp)]) hx hb gX6_settle_1.2.2.2.2.2.2.2.2.2 hl (k := 0) rfl (nI_1 _) (by decide) rfl (fun ls hl => ?_)
      refine lv_goto (tgt := 8) hx hb gX6_settle_2.1 (by decide) ?_
      have hst9 : TDP 1000000 (S0F K9 fbstamps V9 fbpapers fbpersons kbstamps kbpapers je) (upd vsh kP r9_4012) (kP + 1) := TDP.next htd hpx4012
      exact ihP (kP + 1) (upd vsh kP r9_4012) _ _ _ (by omega) (by first | assumption | exact Or.inl rfl | exact Or.inr rfl | exact TDP.zero) (And.intro hP hD) hS (lv_sub hl [0, 1, 2, 3] rfl)
  exact keyP 8 0 fsh _ _ _ (by omega) (by first | assumption | exact Or.inl rfl | exact Or.inr rfl | exact TDP.zero) (And.intro hP hD) hS (lv_sub hl [0, 1, 2, 3] rfl)
def K_c_knownFromX (l : Launch) (G : GG) (VL : Nat → List LNT) (VC : Nat → Nat → List Int32) (DY : Nat → Int32) (h0 : Nat) (je : Nat) (jt : Nat) (wy : Int32) (pp : Int32) (bb : Nat) (kk : Nat) (ikp : Int32) (sg : Nat) (do9 : Nat) (ru9 : Nat) (ta9 : Nat) (tp9 : Nat) (ro9 : Nat) (ho9 : Nat) (de9 : Nat) (clk : Nat) (fi : Nat) (la : Nat) (ml : Nat) (mm : Nat) (sl : Nat) (sm : Nat) (cl : Int32) (clm : Nat) (fclm : Nat → Int32) (ffi : Nat → Int32) (fla : Nat → Int32) (fml : Nat → Int32) (fmm : Nat → Int32) (fsl : Nat → Int32) (fsm : Nat → Int32) (fc : Nat) (sh : Nat) (r1 : Int32) (rc : Int32) (rh : Int32) (ffc : Nat → Int32) (fsh : Nat → Int32) (bpersons : Nat) (bpapers : Nat) (bstamps : Nat) (bversions : Nat) (blines : Nat) (bsteps : Nat) (bsayings : Nat) (bfindings : Nat) (bwarnings : Nat) (bquestions : Nat) (td : Int32) (vd : Int32) (vl : Int32) (gp : Int32) (bversionsc : Nat) (kbversions : Nat) (fbversions : Nat → Int32) (bpersonsc : Nat) (kbpersons : Nat) (fbpersons : Nat → Int32) (bpapersc : Nat) (kbpapers : Nat) (fbpapers : Nat → Int32) (blinesc : Nat) (kblines : Nat) (fblines : Nat → Int32) (bstepsc : Nat) (kbsteps : Nat) (fbsteps : Nat → Int32) (bstampsc : Nat) (kbstamps : Nat) (fbstamps : Nat → Int32) : Prop := MI l G yX11_knownFrom cX11_knownFrom 5 (some .int) 6 0 0 [.ref h0, .int (nI je), .int (nI jt), .int wy, .int pp] [(h0, oX11 bb kk ikp sg do9 ru9 ta9 tp9 ro9 ho9 de9), (sg, oX7 bb clk fi la ml mm sl sm cl), (clk, oX1 clm), (clm, iA G 36 fclm), (fi, iA G 12 ffi), (la, iA G 12 fla), (ml, iA G 12 fml), (mm, iA G 12 fmm), (sl, iA G 12 fsl), (sm, iA G 12 fsm), (ru9, oX6 bb sg fc sh r1 rc rh), (fc, iA G 5 ffc), (sh, iA G 8 fsh), (bb, oX0 bpersons bpapers bstamps bversions blines bsteps bsayings bfindings bwarnings bquestions td vd vl gp), (bversions, oX8 8 3 bversionsc (nI kbversions)), (bversionsc, iA G 24 fbversions), (bpersons, oX8 10 2 bpersonsc (nI kbpersons)), (bpersonsc, iA G 20 fbpersons), (bpapers, oX8 12 6 bpapersc (nI kbpapers)), (bpapersc, iA G 72 fbpapers), (blines, oX8 72 7 blinesc (nI kblines)), (blinesc, iA G 504 fblines), (bsteps, oX8 960 1 bstepsc (nI kbsteps)), (bstepsc, iA G 960 fbsteps), (bstamps, oX8 24 3 bstampsc (nI kbstamps)), (bstampsc, iA G 72 fbstamps)] (fun (r : Int32) (u : Int32 × (Nat → Int32) × (Nat → Int32) × (Nat → Int32) × (Nat → Int32) × (Nat → Int32) × (Nat → Int32) × (Nat → Int32) × Int32 × Int32 × Int32 × (Nat → Int32) × (Nat → Int32)) => (∃ (w9:Int32), (ARW 1000000 (KWO (KST fbstamps (VPP pp) gp.toInt kbstamps) fbstamps (VPP pp) fbpapers fbpersons kbstamps kbpapers je (LVF (LNF (RLO DY (DAYV td vd) kbversions) VL) (TRF (RLO DY (DAYV td vd) kbversions) VC (FAX fbpersons fbpapers (VPP pp) kbpapers je))) (LVN (RLO DY (DAYV td vd) kbversions) VL) jt wy) w9) ∧ r = w9) ∧ (u.1 = 0 ∨ u.1 = 1)) (fun u : Int32 × (Nat → Int32) × (Nat → Int32) × (Nat → Int32) × (Nat → Int32) × (Nat → Int32) × (Nat → Int32) × (Nat → Int32) × Int32 × Int32 × Int32 × (Nat → Int32) × (Nat → Int32) => [(h0, oX11 bb kk ikp sg do9 ru9 ta9 tp9 ro9 ho9 de9), (sg, oX7 bb clk fi la ml mm sl sm u.1), (clk, oX1 clm), (clm, iA G 36 u.2.1), (fi, iA G 12 u.2.2.1), (la, iA G 12 u.2.2.2.1), (ml, iA G 12 u.2.2.2.2.1), (mm, iA G 12 u.2.2.2.2.2.1), (sl, iA G 12 u.2.2.2.2.2.2.1), (sm, iA G 12 u.2.2.2.2.2.2.2.1), (ru9, oX6 bb sg fc sh u.2.2.2.2.2.2.2.2.1 u.2.2.2.2.2.2.2.2.2.1 u.2.2.2.2.2.2.2.2.2.2.1), (fc, iA G 5 u.2.2.2.2.2.2.2.2.2.2.2.1), (sh, iA G 8 u.2.2.2.2.2.2.2.2.2.2.2.2), (bb, oX0 bpersons bpapers bstamps bversions blines bsteps bsayings bfindings bwarnings bquestions td vd vl gp), (bversions, oX8 8 3 bversionsc (nI kbversions)), (bversionsc, iA G 24 fbversions), (bpersons, oX8 10 2 bpersonsc (nI kbpersons)), (bpersonsc, iA G 20 fbpersons), (bpapers, oX8 12 6 bpapersc (nI kbpapers)), (bpapersc, iA G 72 fbpapers), (blines, oX8 72 7 blinesc (nI kblines)), (blinesc, iA G 504 fblines), (bsteps, oX8 960 1 bstepsc (nI kbsteps)), (bstepsc, iA G 960 fbsteps), (bstamps, oX8 24 3 bstampsc (nI kbstamps)), (bstampsc, iA G 72 fbstamps)])
set_option maxHeartbeats 4000000 in
set_option maxRecDepth 100000 in
theorem c_knownFromX (l : Launch) (G : GG) (VL : Nat → List LNT) (VC : Nat → Nat → List Int32) (DY : Nat → Int32) (h0 : Nat) (je : Nat) (jt : Nat) (wy : Int32) (pp : Int32) (bb : Nat) (kk : Nat) (ikp : Int32) (sg : Nat) (do9 : Nat) (ru9 : Nat) (ta9 : Nat) (tp9 : Nat) (ro9 : Nat) (ho9 : Nat) (de9 : Nat) (clk : Nat) (fi : Nat) (la : Nat) (ml : Nat) (mm : Nat) (sl : Nat) (sm : Nat) (cl : Int32) (clm : Nat) (fclm : Nat → Int32) (ffi : Nat → Int32) (fla : Nat → Int32) (fml : Nat → Int32) (fmm : Nat → Int32) (fsl : Nat → Int32) (fsm : Nat → Int32) (fc : Nat) (sh : Nat) (r1 : Int32) (rc : Int32) (rh : Int32) (ffc : Nat → Int32) (fsh : Nat → Int32) (bpersons : Nat) (bpapers : Nat) (bstamps : Nat) (bversions : Nat) (blines : Nat) (bsteps : Nat) (bsayings : Nat) (bfindings : Nat) (bwarnings : Nat) (bquestions : Nat) (td : Int32) (vd : Int32) (vl : Int32) (gp : Int32) (bversionsc : Nat) (kbversions : Nat) (fbversions : Nat → Int32) (bpersonsc : Nat) (kbpersons : Nat) (fbpersons : Nat → Int32) (bpapersc : Nat) (kbpapers : Nat) (fbpapers : Nat → Int32) (blinesc : Nat) (kblines : Nat) (fblines : Nat → Int32) (bstepsc : Nat) (kbsteps : Nat) (fbsteps : Nat → Int32) (bstampsc : Nat) (kbstamps : Nat) (fbstamps : Nat → Int32) (hkbversions : kbversions ≤ 8) (hkbpersons : kbpersons ≤ 10) (hkbpapers : kbpapers ≤ 12) (hkblines : kblines ≤ 72) (hkbsteps : kbsteps ≤ 960) (hkbstamps : kbstamps ≤ 24) (hVZ : VCZ fbversions fblines fbsteps kbversions kblines kbsteps VL VC DY) (hSV : SVL fbstamps kbstamps) (hgp : GPR gp) (hSL : PSL fbpersons) (hje : je < kbpersons) (hjt : jt < 8) : K_c_knownFromX l G VL VC DY h0 je jt wy pp bb kk ikp sg do9 ru9 ta9 tp9 ro9 ho9 de9 clk fi la ml mm sl sm cl clm fclm ffi fla fml fmm fsl fsm fc sh r1 rc rh ffc fsh bpersons bpapers bstamps bversions blines bsteps bsayings bfindings bwarnings bquestions td vd vl gp bversionsc kbversions fbversions bpersonsc kbpersons fbpersons bpapersc kbpapers fbpapers blinesc kblines fblines bstepsc kbsteps fbsteps bstampsc kbstamps fbstamps := by
  refine MI.start (by decide +kernel) (Nat.le_of_ble_eq_true rfl) ?_
  intro p e s m below meth c A ls hC hK hP hD hS hA hl
  refine absQ (fun Q0 hQ0 => ?_)
  have hl : lv_has ls 5 [(0, .ref h0), (1, .int (nI je)), (2, .int (nI jt)), (3, .int wy), (4, .int pp)] := hl
  refine Kan8 hC (fun hx hb hr hml hB hown hlocks hnm => ?_)
  refine lv_aload_n hx hb gX11_knownFrom_0.1 rfl (lv_at0 hl) ?_
  refine gf_X11_28 hC rfl hK hP 0 rfl rfl gX11_knownFrom_0.2.1 ?_
  refine lv_iload hx hb gX11_knownFrom_0.2.2.1 (lv_at4 hl) ?_
  refine vV (wr := [(h0, oX11 bb kk ikp sg do9 ru9 ta9 tp9 ro9 ho9 de9), (ru9, oX6 bb sg fc sh r1 rc rh), (fc, iA G 5 ffc), (sh, iA G 8 fsh), (bversions, oX8 8 3 bversionsc (nI kbversions)), (bversionsc, iA G 24 fbversions), (bpersons, oX8 10 2 bpersonsc (nI kbpersons)), (bpersonsc, iA G 20 fbpersons), (bpapers, oX8 12 6 bpapersc (nI kbpapers)), (bpapersc, iA G 72 fbpapers), (blines, oX8 72 7 blinesc (nI kblines)), (blinesc, iA G 504 fblines), (bsteps, oX8 960 1 bstepsc (nI kbsteps)), (bstepsc, iA G 960 fbsteps)]) hC hK hl hP hD hS hA (c_lookX l G sg pp bb clk fi la ml mm sl sm cl clm fclm ffi fla fml fmm fsl fsm bpersons bpapers bstamps bversions blines bsteps bsayings bfindings bwarnings bquestions td vd vl gp bstampsc kbstamps fbstamps (hkbstamps) (hSV) (hgp)) si_X11_183 [1, 2, 3, 4, 5, 6, 7, 8, 9, 13, 24, 25] [0, 10, 11, 12, 14, 15, 16, 17, 18, 19, 20, 21, 22, 23] sm_1_2_3_4_5_6_7_8_9_13_24_25 fm_1_2_3_4_5_6_7_8_9_13_24_25 nd_1_2_3_4_5_6_7_8_9_13_24_25 sm_0_10_11_12_14_15_16_17_18_19_20_21_22_23 nd_0_10_11_12_14_15_16_17_18_19_20_21_22_23 dj_1_2_3_4_5_6_7_8_9_13_24_25__0_10_11_12_14_15_16_17_18_19_20_21_22_23 rfl rfl rfl rfl rfl (Nat.le_of_ble_eq_true rfl) rm_6_5_4 ⟨Nat.le_of_ble_eq_true rfl, Nat.le_of_ble_eq_true rfl⟩ gX11_knownFrom_0.2.2.2.1 (Ktu8 fun cl14015 gclm4016 gfi4017 gla4018 gml4019 gmm4020 gsl4021 gsm4022 => ?_)
  intro H locs hr4013 hP hD hS
  try dsimp only at hr4013
  refine Kpdr (ws := [(h0, oX11 bb kk ikp sg do9 ru9 ta9 tp9 ro9 ho9 de9), (ru9, oX6 bb sg fc sh r1 rc rh), (fc, iA G 5 ffc), (sh, iA G 8 fsh), (bversions, oX8 8 3 bversionsc (nI kbversions)), (bversionsc, iA G 24 fbversions), (bpersons, oX8 10 2 bpersonsc (nI kbpersons)), (bpersonsc, iA G 20 fbpersons), (bpapers, oX8 12 6 bpapersc (nI kbpapers)), (bpapersc, iA G 72 fbpapers), (blines, oX8 72 7 blinesc (nI kblines)), (blinesc, iA G 504 fblines), (bsteps, oX8 960 1 bstepsc (nI kbsteps)), (bstepsc, iA G 960 fbsteps), (sg, oX7 bb clk fi la ml mm sl sm cl14015), (clk, oX1 clm), (clm, iA G 36 gclm4016), (fi, iA G 12 gfi4017), (la, iA G 12 gla4018), (ml, iA G 12 gml4019), (mm, iA G 12 gmm4020), (sl, iA G 12 gsl4021), (sm, iA G 12 gsm4022), (bb, oX0 bpersons bpapers bstamps bversions blines bsteps bsayings bfindings bwarnings bquestions td vd vl gp), (bstamps, oX8 24 3 bstampsc (nI kbstamps)), (bstampsc, iA G 72 fbstamps)]) hP hD (fun hP hD => ?_)
  have w4023 := hr4013
  have hsg9 : SGQ (KST fbstamps (VPP pp) gp.toInt kbstamps) fbstamps (VPP pp) kbstamps cl14015 gla4018 gml4019 gmm4020 gsl4021 gsm4022 := LKP.sgq w4023.2 (by omega)
  refine lv_iload_n hx hb gX11_knownFrom_0.2.2.2.2.1 rfl (lv_at3 hl) ?_
  refine lv_iconst (v := 2) hx hb gX11_knownFrom_0.2.2.2.2.2.1 (by decide) ?_
  refine lv_icmp_eq (tgt := 33) hx hb gX11_knownFrom_0.2.2.2.2.2.2.1 (by decide) (fun c_11_4024 => ?_) (fun c_11_4024 => ?_)
  · refine lv_aload_n hx hb gX11_knownFrom_1.2.2.2.2.2.2.2.2.1 rfl (lv_at0 hl) ?_
    refine gf_X11_44 hC rfl hK hP 0 rfl rfl gX11_knownFrom_1.2.2.2.2.2.2.2.2.2 ?_
    refine lv_iload_n hx hb gX11_knownFrom_2.1 rfl (lv_at1 hl) ?_
    refine lv_iload hx hb gX11_knownFrom_2.2.1 (lv_at4 hl) ?_
    refine vV (wr := [(h0, oX11 bb kk ikp sg do9 ru9 ta9 tp9 ro9 ho9 de9), (clk, oX1 clm), (clm, iA G 36 gclm4016), (fi, iA G 12 gfi4017), (bstamps, oX8 24 3 bstampsc (nI kbstamps)), (bstampsc, iA G 72 fbstamps)]) hC hK hl hP hD hS hA (c_settleX l G (KST fbstamps (VPP pp) gp.toInt kbstamps) (VPP pp) VL VC DY fbstamps kbstamps ru9 je pp bb sg fc sh r1 rc rh ffc fsh clk fi la ml mm sl sm cl14015 gla4018 gml4019 gmm4020 gsl4021 gsm4022 bpersons bpapers bstamps bversions blines bsteps bsayings bfindings bwarnings bquestions td vd vl gp bversionsc kbversions fbversions bpersonsc kbpersons fbpersons bpapersc kbpapers fbpapers blinesc kblines fblines bstepsc kbsteps fbsteps (hkbversions) (hkbpersons) (hkbpapers) (hkblines) (hkbsteps) (hVZ) (hsg9) (hSV) (hSL) (hje)) si_X11_243 [1, 2, 3, 14, 18, 19, 20, 21, 22, 23, 4, 5, 6, 7, 8, 9, 10, 11, 12, 13] [0, 15, 16, 17, 24, 25] sm_1_2_3_14_18_19_20_21_22_23_4_5_6_7_8_9_10_11_12_13 fm_1_2_3_14_18_19_20_21_22_23_4_5_6_7_8_9_10_11_12_13 nd_1_2_3_14_18_19_20_21_22_23_4_5_6_7_8_9_10_11_12_13 sm_0_15_16_17_24_25 nd_0_15_16_17_24_25 dj_1_2_3_14_18_19_20_21_22_23_4_5_6_7_8_9_10_11_12_13__0_15_16_17_24_25 rfl rfl rfl rfl rfl (Nat.le_of_ble_eq_true rfl) rm_6_5_5 ⟨Nat.le_of_ble_eq_true rfl, Nat.le_of_ble_eq_true rfl⟩ gX11_knownFrom_2.2.2.1 (Ktu5 fun r114027 cn14028 rh14029 gfc4030 gsh4031 => ?_)
    intro H locs hr4025 hP hD hS
    try dsimp only at hr4025
    refine Kpdr (ws := [(h0, oX11 bb kk ikp sg do9 ru9 ta9 tp9 ro9 ho9 de9), (clk, oX1 clm), (clm, iA G 36 gclm4016), (fi, iA G 12 gfi4017), (bstamps, oX8 24 3 bstampsc (nI kbstamps)), (bstampsc, iA G 72 fbstamps), (ru9, oX6 bb sg fc sh r114027 (nI cn14028) rh14029), (fc, iA G 5 gfc4030), (sh, iA G 8 gsh4031), (sg, oX7 bb clk fi la ml mm sl sm cl14015), (la, iA G 12 gla4018), (ml, iA G 12 gml4019), (mm, iA G 12 gmm4020), (sl, iA G 12 gsl4021), (sm, iA G 12 gsm4022), (bb, oX0 bpersons bpapers bstamps bversions blines bsteps bsayings bfindings bwarnings bquestions td vd vl gp), (bversions, oX8 8 3 bversionsc (nI kbversions)), (bversionsc, iA G 24 fbversions), (bpersons, oX8 10 2 bpersonsc (nI kbpersons)), (bpersonsc, iA G 20 fbpersons), (bpapers, oX8 12 6 bpapersc (nI kbpapers)), (bpapersc, iA G 72 fbpapers), (blines, oX8 72 7 blinesc (nI kblines)), (blinesc, iA G 504 fblines), (bsteps, oX8 960 1 bstepsc (nI kbsteps)), (bstepsc, iA G 960 fbsteps)]) hP hD (fun hP hD => ?_)
    have hu4033 := hr4025.1
    have hu4034 := hr4025.2.1
    have hu4035 := hr4025.2.2
    refine lv_aload_n hx hb gX11_knownFrom_2.2.2.2.1 rfl (lv_at0 hl) ?_
    refine gf_X11_44 hC rfl hK hP 0 rfl rfl gX11_knownFrom_2.2.2.2.2.1 ?_
    refine lv_iload_n hx hb gX11_knownFrom_2.2.2.2.2.2.1 rfl (lv_at2 hl) ?_
    refine pV hC hK hl hP hD (c_shouldHourX l G ru9 jt bb sg fc sh r114027 (nI cn14028) rh14029 gsh4031 (hjt)) si_X11_247 [6, 8] sm_6_8 fm_6_8 nd_6_8 rfl rfl rfl rfl rfl (Nat.le_of_ble_eq_true rfl) rm_6_1_2 ⟨by first | exact Nat.le_of_ble_eq_true rfl | exact Nat.zero_le _, by first | exact Nat.le_of_ble_eq_true rfl | exact Nat.zero_le _⟩ gX11_knownFrom_2.2.2.2.2.2.2.1 (Keqr ?_)
    refine toQ hQ0 ?_
    exact RI (v := (gsh4031 jt)) hC hP hD hS [0, 9, 1, 2, 3, 10, 11, 12, 13, 14, 6, 7, 8, 15, 16, 17, 18, 19, 20, 21, 22, 23, 24, 25, 4, 5] (cl14015, gclm4016, gfi4017, gla4018, gml4019, gmm4020, gsl4021, gsm4022, r114027, nI cn14028, rh14029, gfc4030, gsh4031) rfl rfl (by decide) (⟨⟨_, KWO.y c_11_4024 (by rw [← hu4033]; exact SHF.w (HBD.pit (S0F.hbd hSV (hSL je (by omega)).1 (hSL je (by omega)).2) (hu4034).lvb 9) hjt (hu4035 jt hjt)), rfl⟩, w4023.1⟩) rfl gX11_knownFrom_2.2.2.2.2.2.2.2
  · refine lv_aload_n hx hb gX11_knownFrom_0.2.2.2.2.2.2.2.1 rfl (lv_at0 hl) ?_
    refine gf_X11_28 hC rfl hK hP 0 rfl rfl gX11_knownFrom_0.2.2.2.2.2.2.2.2.1 ?_
    refine lv_iload_n hx hb gX11_knownFrom_0.2.2.2.2.2.2.2.2.2 rfl (lv_at1 hl) ?_
    refine lv_iload_n hx hb gX11_knownFrom_1.1 rfl (lv_at2 hl) ?_
    refine lv_iload_n hx hb gX11_knownFrom_1.2.1 rfl (lv_at3 hl) ?_
    refine lv_if_ne (tgt := 28) hx hb gX11_knownFrom_1.2.2.1 (by decide) (fun c_21_4038 => ?_) (fun c_21_4038 => ?_)
    · refine lv_iconst (v := 0) hx hb gX11_knownFrom_1.2.2.2.2.2.1 (by decide) ?_
      refine pV hC hK hl hP hD (c_toldHourX l G (KST fbstamps (VPP pp) gp.toInt kbstamps) (VPP pp) fbstamps kbstamps sg je jt 0 bb clk fi la ml mm sl sm cl14015 gla4018 gml4019 gmm4020 gsl4021 gsm4022 bpersons bpapers bstamps bversions blines bsteps bsayings bfindings bwarnings bquestions td vd vl gp bpapersc kbpapers fbpapers bpersonsc kbpersons fbpersons (hkbpapers) (hkbpersons) (hsg9) (hSV) (hSL) (hje) (hjt)) si_X11_250 [14, 18, 19, 20, 21, 22, 23, 8, 9, 6, 7] sm_14_18_19_20_21_22_23_8_9_6_7 fm_14_18_19_20_21_22_23_8_9_6_7 nd_14_18_19_20_21_22_23_8_9_6_7 rfl rfl rfl rfl rfl (Nat.le_of_ble_eq_true rfl) rm_6_4_6 ⟨by first | exact Nat.le_of_ble_eq_true rfl | exact Nat.zero_le _, by first | exact Nat.le_of_ble_eq_true rfl | exact Nat.zero_le _⟩ gX11_knownFrom_1.2.2.2.2.2.2.1 (fun r4039 hr4039 => ?_)
      obtain ⟨r9_4040, hpx4040, hpe4040⟩ := hr4039
      subst r4039
      try dsimp only at hpx4040
      refine toQ hQ0 ?_
      exact RI (v := r9_4040) hC hP hD hS [0, 14, 15, 16, 17, 18, 19, 20, 21, 22, 1, 2, 3, 23, 4, 5, 6, 7, 8, 9, 10, 11, 12, 13, 24, 25] (cl14015, gclm4016, gfi4017, gla4018, gml4019, gmm4020, gsl4021, gsm4022, r1, rc, rh, ffc, fsh) rfl rfl (by decide) (⟨⟨_, KWO.n1 hSV (hSL je (by omega)).1 (hSL je (by omega)).2 c_11_4024 c_21_4038 hpx4040, rfl⟩, w4023.1⟩) rfl gX11_knownFrom_1.2.2.2.2.2.2.2.1
    · refine lv_iconst (v := 1) hx hb gX11_knownFrom_1.2.2.2.1 (by decide) ?_
      refine lv_goto (tgt := 29) hx hb gX11_knownFrom_1.2.2.2.2.1 (by decide) ?_
      refine pV hC hK hl hP hD (c_toldHourX l G (KST fbstamps (VPP pp) gp.toInt kbstamps) (VPP pp) fbstamps kbstamps sg je jt 1 bb clk fi la ml mm sl sm cl14015 gla4018 gml4019 gmm4020 gsl4021 gsm4022 bpersons bpapers bstamps bversions blines bsteps bsayings bfindings bwarnings bquestions td vd vl gp bpapersc kbpapers fbpapers bpersonsc kbpersons fbpersons (hkbpapers) (hkbpersons) (hsg9) (hSV) (hSL) (hje) (hjt)) si_X11_250 [14, 18, 19, 20, 21, 22, 23, 8, 9, 6, 7] sm_14_18_19_20_21_22_23_8_9_6_7 fm_14_18_19_20_21_22_23_8_9_6_7 nd_14_18_19_20_21_22_23_8_9_6_7 rfl rfl rfl rfl rfl (Nat.le_of_ble_eq_true rfl) rm_6_4_6 ⟨by first | exact Nat.le_of_ble_eq_true rfl | exact Nat.zero_le _, by first | exact Nat.le_of_ble_eq_true rfl | exact Nat.zero_le _⟩ gX11_knownFrom_1.2.2.2.2.2.2.1 (fun r4041 hr4041 => ?_)
      obtain ⟨r9_4042, hpx4042, hpe4042⟩ := hr4041
      subst r4041
      try dsimp only at hpx4042
      refine toQ hQ0 ?_
      exact RI (v := r9_4042) hC hP hD hS [0, 14, 15, 16, 17, 18, 19, 20, 21, 22, 1, 2, 3, 23, 4, 5, 6, 7, 8, 9, 10, 11, 12, 13, 24, 25] (cl14015, gclm4016, gfi4017, gla4018, gml4019, gmm4020, gsl4021, gsm4022, r1, rc, rh, ffc, fsh) rfl rfl (by decide) (⟨⟨_, KWO.n0 hSV (hSL je (by omega)).1 (hSL je (by omega)).2 c_11_4024 c_21_4038 hpx4042, rfl⟩, w4023.1⟩) rfl gX11_knownFrom_1.2.2.2.2.2.2.2.1
def K_c_standsX (l : Launch) (G : GG) (VL : Nat → List LNT) (VC : Nat → Nat → List Int32) (DY : Nat → Int32) (h0 : Nat) (jf : Nat) (pp : Int32) (bb : Nat) (kk : Nat) (ikp : Int32) (sg : Nat) (do9 : Nat) (ru9 : Nat) (ta9 : Nat) (tp9 : Nat) (ro9 : Nat) (ho9 : Nat) (de9 : Nat) (clk : Nat) (fi : Nat) (la : Nat) (ml : Nat) (mm : Nat) (sl : Nat) (sm : Nat) (cl : Int32) (clm : Nat) (fclm : Nat → Int32) (ffi : Nat → Int32) (fla : Nat → Int32) (fml : Nat → Int32) (fmm : Nat → Int32) (fsl : Nat → Int32) (fsm : Nat → Int32) (fc : Nat) (sh : Nat) (r1 : Int32) (rc : Int32) (rh : Int32) (ffc : Nat → Int32) (fsh : Nat → Int32) (bpersons : Nat) (bpapers : Nat) (bstamps : Nat) (bversions : Nat) (blines : Nat) (bsteps : Nat) (bsayings : Nat) (bfindings : Nat) (bwarnings : Nat) (bquestions : Nat) (td : Int32) (vd : Int32) (vl : Int32) (gp : Int32) (bversionsc : Nat) (kbversions : Nat) (fbversions : Nat → Int32) (bpersonsc : Nat) (kbpersons : Nat) (fbpersons : Nat → Int32) (bpapersc : Nat) (kbpapers : Nat) (fbpapers : Nat → Int32) (blinesc : Nat) (kblines : Nat) (fblines : Nat → Int32) (bstepsc : Nat) (kbsteps : Nat) (fbsteps : Nat → Int32) (bstampsc : Nat) (kbstamps : Nat) (fbstamps : Nat → Int32) (bfindingsc : Nat) (kbfindings : Nat) (fbfindings : Nat → Int32) : Prop := MI l G yX11_stands cX11_stands 6 (some .boolean) 7 0 0 [.ref h0, .int (nI jf), .int pp] [(h0, oX11 bb kk ikp sg do9 ru9 ta9 tp9 ro9 ho9 de9), (sg, oX7 bb clk fi la ml mm sl sm cl), (clk, oX1 clm), (clm, iA G 36 fclm), (fi, iA G 12 ffi), (la, iA G 12 fla), (ml, iA G 12 fml), (mm, iA G 12 fmm), (sl, iA G 12 fsl), (sm, iA G 12 fsm), (ru9, oX6 bb sg fc sh r1 rc rh), (fc, iA G 5 ffc), (sh, iA G 8 fsh), (bb, oX0 bpersons bpapers bstamps bversions blines bsteps bsayings bfindings bwarnings bquestions td vd vl gp), (bversions, oX8 8 3 bversionsc (nI kbversions)), (bversionsc, iA G 24 fbversions), (bpersons, oX8 10 2 bpersonsc (nI kbpersons)), (bpersonsc, iA G 20 fbpersons), (bpapers, oX8 12 6 bpapersc (nI kbpapers)), (bpapersc, iA G 72 fbpapers), (blines, oX8 72 7 blinesc (nI kblines)), (blinesc, iA G 504 fblines), (bsteps, oX8 960 1 bstepsc (nI kbsteps)), (bstepsc, iA G 960 fbsteps), (bstamps, oX8 24 3 bstampsc (nI kbstamps)), (bstampsc, iA G 72 fbstamps), (bfindings, oX8 12 4 bfindingsc (nI kbfindings)), (bfindingsc, iA G 48 fbfindings)] (fun (r : Int32) (u : Int32 × (Nat → Int32) × (Nat → Int32) × (Nat → Int32) × (Nat → Int32) × (Nat → Int32) × (Nat → Int32) × (Nat → Int32) × Int32 × Int32 × Int32 × (Nat → Int32) × (Nat → Int32)) => ((r = 1 ∧ (STD (KST fbstamps (VPP pp) gp.toInt kbstamps) fbstamps (VPP pp) fbpapers fbpersons kbstamps kbpapers (fun e9 => LVF (LNF (RLO DY (DAYV td vd) kbversions) VL) (TRF (RLO DY (DAYV td vd) kbversions) VC (FAX fbpersons fbpapers (VPP pp) kbpapers e9))) (LVN (RLO DY (DAYV td vd) kbversions) VL) fbfindings) jf) ∨ (r = 0 ∧ ¬ (STD (KST fbstamps (VPP pp) gp.toInt kbstamps) fbstamps (VPP pp) fbpapers fbpersons kbstamps kbpapers (fun e9 => LVF (LNF (RLO DY (DAYV td vd) kbversions) VL) (TRF (RLO DY (DAYV td vd) kbversions) VC (FAX fbpersons fbpapers (VPP pp) kbpapers e9))) (LVN (RLO DY (DAYV td vd) kbversions) VL) fbfindings) jf)) ∧ (u.1 = 0 ∨ u.1 = 1)) (fun u : Int32 × (Nat → Int32) × (Nat → Int32) × (Nat → Int32) × (Nat → Int32) × (Nat → Int32) × (Nat → Int32) × (Nat → Int32) × Int32 × Int32 × Int32 × (Nat → Int32) × (Nat → Int32) => [(h0, oX11 bb kk ikp sg do9 ru9 ta9 tp9 ro9 ho9 de9), (sg, oX7 bb clk fi la ml mm sl sm u.1), (clk, oX1 clm), (clm, iA G 36 u.2.1), (fi, iA G 12 u.2.2.1), (la, iA G 12 u.2.2.2.1), (ml, iA G 12 u.2.2.2.2.1), (mm, iA G 12 u.2.2.2.2.2.1), (sl, iA G 12 u.2.2.2.2.2.2.1), (sm, iA G 12 u.2.2.2.2.2.2.2.1), (ru9, oX6 bb sg fc sh u.2.2.2.2.2.2.2.2.1 u.2.2.2.2.2.2.2.2.2.1 u.2.2.2.2.2.2.2.2.2.2.1), (fc, iA G 5 u.2.2.2.2.2.2.2.2.2.2.2.1), (sh, iA G 8 u.2.2.2.2.2.2.2.2.2.2.2.2), (bb, oX0 bpersons bpapers bstamps bversions blines bsteps bsayings bfindings bwarnings bquestions td vd vl gp), (bversions, oX8 8 3 bversionsc (nI kbversions)), (bversionsc, iA G 24 fbversions), (bpersons, oX8 10 2 bpersonsc (nI kbpersons)), (bpersonsc, iA G 20 fbpersons), (bpapers, oX8 12 6 bpapersc (nI kbpapers)), (bpapersc, iA G 72 fbpapers), (blines, oX8 72 7 blinesc (nI kblines)), (blinesc, iA G 504 fblines), (bsteps, oX8 960 1 bstepsc (nI kbsteps)), (bstepsc, iA G 960 fbsteps), (bstamps, oX8 24 3 bstampsc (nI kbstamps)), (bstampsc, iA G 72 fbstamps), (bfindings, oX8 12 4 bfindingsc (nI kbfindings)), (bfindingsc, iA G 48 fbfindings)])
set_option maxHeartbeats 4000000 in
set_option maxRecDepth 100000 in
theorem c_standsX (l : Launch) (G : GG) (VL : Nat → List LNT) (VC : Nat → Nat → List Int32) (DY : Nat → Int32) (h0 : Nat) (jf : Nat) (pp : Int32) (bb : Nat) (kk : Nat) (ikp : Int32) (sg : Nat) (do9 : Nat) (ru9 : Nat) (ta9 : Nat) (tp9 : Nat) (ro9 : Nat) (ho9 : Nat) (de9 : Nat) (clk : Nat) (fi : Nat) (la : Nat) (ml : Nat) (mm : Nat) (sl : Nat) (sm : Nat) (cl : Int32) (clm : Nat) (fclm : Nat → Int32) (ffi : Nat → Int32) (fla : Nat → Int32) (fml : Nat → Int32) (fmm : Nat → Int32) (fsl : Nat → Int32) (fsm : Nat → Int32) (fc : Nat) (sh : Nat) (r1 : Int32) (rc : Int32) (rh : Int32) (ffc : Nat → Int32) (fsh : Nat → Int32) (bpersons : Nat) (bpapers : Nat) (bstamps : Nat) (bversions : Nat) (blines : Nat) (bsteps : Nat) (bsayings : Nat) (bfindings : Nat) (bwarnings : Nat) (bquestions : Nat) (td : Int32) (vd : Int32) (vl : Int32) (gp : Int32) (bversionsc : Nat) (kbversions : Nat) (fbversions : Nat → Int32) (bpersonsc : Nat) (kbpersons : Nat) (fbpersons : Nat → Int32) (bpapersc : Nat) (kbpapers : Nat) (fbpapers : Nat → Int32) (blinesc : Nat) (kblines : Nat) (fblines : Nat → Int32) (bstepsc : Nat) (kbsteps : Nat) (fbsteps : Nat → Int32) (bstampsc : Nat) (kbstamps : Nat) (fbstamps : Nat → Int32) (bfindingsc : Nat) (kbfindings : Nat) (fbfindings : Nat → Int32) (hkbversions : kbversions ≤ 8) (hkbpersons : kbpersons ≤ 10) (hkbpapers : kbpapers ≤ 12) (hkblines : kblines ≤ 72) (hkbsteps : kbsteps ≤ 960) (hkbstamps : kbstamps ≤ 24) (hkbfindings : kbfindings ≤ 12) (hVZ : VCZ fbversions fblines fbsteps kbversions kblines kbsteps VL VC DY) (hSV : SVL fbstamps kbstamps) (hgp : GPR gp) (hSL : PSL fbpersons) (hFN : FNO fbfindings kbfindings kbpersons) (hjf : jf < kbfindings) : K_c_standsX l G VL VC DY h0 jf pp bb kk ikp sg do9 ru9 ta9 tp9 ro9 ho9 de9 clk fi la ml mm sl sm cl clm fclm ffi fla fml fmm fsl fsm fc sh r1 rc rh ffc fsh bpersons bpapers bstamps bversions blines bsteps bsayings bfindings bwarnings bquestions td vd vl gp bversionsc kbversions fbversions bpersonsc kbpersons fbpersons bpapersc kbpapers fbpapers blinesc kblines fblines bstepsc kbsteps fbsteps bstampsc kbstamps fbstamps bfindingsc kbfindings fbfindings := by
  refine MI.start (by decide +kernel) (Nat.le_of_ble_eq_true rfl) ?_
  intro p e s m below meth c A ls hC hK hP hD hS hA hl
  refine absQ (fun Q0 hQ0 => ?_)
  have hl : lv_has ls 6 [(0, .ref h0), (1, .int (nI jf)), (2, .int pp)] := hl
  refine Kan8 hC (fun hx hb hr hml hB hown hlocks hnm => ?_)
  have hf9 := hFN jf hjf
  obtain ⟨je, hje, e90⟩ := Hs_nat (by omega) hf9.1
  obtain ⟨jt, hjt, e91⟩ := Wi7 hf9.2.1
  refine lv_aload_n hx hb gX11_stands_0.1 rfl (lv_at0 hl) ?_
  refine gf_X11_15 hC rfl hK hP 0 rfl rfl gX11_stands_0.2.1 ?_
  refine gf_X11_271 hC rfl hK hP 13 rfl rfl gX11_stands_0.2.2.1 ?_
  refine lv_iload_n hx hb gX11_stands_0.2.2.2.1 rfl (lv_at1 hl) ?_
  refine lv_iconst (v := 0) hx hb gX11_stands_0.2.2.2.2.1 (by decide) ?_
  refine pV hC hK hl hP hD (c_T_at l G bfindings (nI jf) 0 12 4 bfindingsc kbfindings fbfindings (hkbfindings) (by omega) (by omega)) si_X11_128 [26, 27] sm_26_27 fm_26_27 nd_26_27 rfl rfl rfl rfl rfl (Nat.le_of_ble_eq_true rfl) rm_7_1_3 ⟨by first | exact Nat.le_of_ble_eq_true rfl | exact Nat.zero_le _, by first | exact Nat.le_of_ble_eq_true rfl | exact Nat.zero_le _⟩ gX11_stands_0.2.2.2.2.2.1 (fun r4043 hr4043 => ?_)
  refine eqi (x1 := nI je) ((hr4043.trans (tatq (by omega) (by omega) (by decide) (by decide) rfl)).trans (e90)) ?_
  refine lv_istore_n (lv' := [(3, .int (nI je)), (0, .ref h0), (1, .int (nI jf)), (2, .int pp)]) hx hb gX11_stands_0.2.2.2.2.2.2.1 rfl hl (by decide) rfl (fun ls hl => ?_)
  refine lv_aload_n hx hb gX11_stands_0.2.2.2.2.2.2.2.1 rfl (lv_at1 hl) ?_
  refine gf_X11_15 hC rfl hK hP 0 rfl rfl gX11_stands_0.2.2.2.2.2.2.2.2.1 ?_
  refine gf_X11_271 hC rfl hK hP 13 rfl rfl gX11_stands_0.2.2.2.2.2.2.2.2.2 ?_
  refine lv_iload_n hx hb gX11_stands_1.1 rfl (lv_at2 hl) ?_
  refine lv_iconst (v := 1) hx hb gX11_stands_1.2.1 (by decide) ?_
  refine pV hC hK hl hP hD (c_T_at l G bfindings (nI jf) 1 12 4 bfindingsc kbfindings fbfindings (hkbfindings) (by omega) (by omega)) si_X11_128 [26, 27] sm_26_27 fm_26_27 nd_26_27 rfl rfl rfl rfl rfl (Nat.le_of_ble_eq_true rfl) rm_7_1_3 ⟨by first | exact Nat.le_of_ble_eq_true rfl | exact Nat.zero_le _, by first | exact Nat.le_of_ble_eq_true rfl | exact Nat.zero_le _⟩ gX11_stands_1.2.2.1 (fun r4045 hr4045 => ?_)
  refine eqi (x1 := nI jt) ((hr4045.trans (tatq (by omega) (by omega) (by decide) (by decide) rfl)).trans (e91)) ?_
  refine lv_istore (lv' := [(4, .int (nI jt)), (3, .int (nI je)), (0, .ref h0), (1, .int (nI jf)), (2, .int pp)]) hx hb gX11_stands_1.2.2.2.1 hl (by decide) rfl (fun ls hl => ?_)
  refine lv_aload_n hx hb gX11_stands_1.2.2.2.2.1 rfl (lv_at2 hl) ?_
  refine gf_X11_15 hC rfl hK hP 0 rfl rfl gX11_stands_1.2.2.2.2.2.1 ?_
  refine gf_X11_271 hC rfl hK hP 13 rfl rfl gX11_stands_1.2.2.2.2.2.2.1 ?_
  refine lv_iload_n hx hb gX11_stands_1.2.2.2.2.2.2.2.1 rfl (lv_at3 hl) ?_
  refine lv_iconst (v := 3) hx hb gX11_stands_1.2.2.2.2.2.2.2.2.1 (by decide) ?_
  refine pV hC hK hl hP hD (c_T_at l G bfindings (nI jf) 3 12 4 bfindingsc kbfindings fbfindings (hkbfindings) (by omega) (by omega)) si_X11_128 [26, 27] sm_26_27 fm_26_27 nd_26_27 rfl rfl rfl rfl rfl (Nat.le_of_ble_eq_true rfl) rm_7_1_3 ⟨by first | exact Nat.le_of_ble_eq_true rfl | exact Nat.zero_le _, by first | exact Nat.le_of_ble_eq_true rfl | exact Nat.zero_le _⟩ gX11_stands_1.2.2.2.2.2.2.2.2.2 (fun r4047 hr4047 => ?_)
  refine eqi (x1 := fbfindings (jf * 4 + 3)) (hr4047.trans (tatq (by omega) (by omega) (by decide) (by decide) rfl)) ?_
  refine lv_istore (lv' := [(5, .int (fbfindings (jf * 4 + 3))), (4, .int (nI jt)), (3, .int (nI je)), (0, .ref h0), (1, .int (nI jf)), (2, .int pp)]) hx hb gX11_stands_2.1 hl (by decide) rfl (fun ls hl => ?_)
  refine lv_aload_n hx hb gX11_stands_2.2.1 rfl (lv_at3 hl) ?_
  refine gf_X11_15 hC rfl hK hP 0 rfl rfl gX11_stands_2.2.2.1 ?_
  refine gf_X11_271 hC rfl hK hP 13 rfl rfl gX11_stands_2.2.2.2.1 ?_
  refine lv_iload_n hx hb gX11_stands_2.2.2.2.2.1 rfl (lv_at4 hl) ?_
  refine lv_iconst (v := 2) hx hb gX11_stands_2.2.2.2.2.2.1 (by decide) ?_
  refine pV hC hK hl hP hD (c_T_at l G bfindings (nI jf) 2 12 4 bfindingsc kbfindings fbfindings (hkbfindings) (by omega) (by omega)) si_X11_128 [26, 27] sm_26_27 fm_26_27 nd_26_27 rfl rfl rfl rfl rfl (Nat.le_of_ble_eq_true rfl) rm_7_1_3 ⟨by first | exact Nat.le_of_ble_eq_true rfl | exact Nat.zero_le _, by first | exact Nat.le_of_ble_eq_true rfl | exact Nat.zero_le _⟩ gX11_stands_2.2.2.2.2.2.2.1 (fun r4049 hr4049 => ?_)
  refine eqi (x1 := fbfindings (jf * 4 + 2)) (hr4049.trans (tatq (by omega) (by omega) (by decide) (by decide) rfl)) ?_
  refine lv_aload_n hx hb gX11_stands_2.2.2.2.2.2.2.2.1 rfl (lv_at3 hl) ?_
  refine lv_iload_n hx hb gX11_stands_2.2.2.2.2.2.2.2.2.1 rfl (lv_at2 hl) ?_
  refine lv_iload hx hb gX11_stands_2.2.2.2.2.2.2.2.2.2 (lv_at1 hl) ?_
  refine lv_iload hx hb gX11_stands_3.1 (lv_at0 hl) ?_
  refine lv_iload_n hx hb gX11_stands_3.2.1 rfl (lv_at5 hl) ?_
  refine iV (wr := [(bfindings, oX8 12 4 bfindingsc (nI kbfindings)), (bfindingsc, iA G 48 fbfindings)]) hC hK hl hP hD hS hA (c_knownFromX l G VL VC DY h0 je jt (fbfindings (jf * 4 + 3)) pp bb kk ikp sg do9 ru9 ta9 tp9 ro9 ho9 de9 clk fi la ml mm sl sm cl clm fclm ffi fla fml fmm fsl fsm fc sh r1 rc rh ffc fsh bpersons bpapers bstamps bversions blines bsteps bsayings bfindings bwarnings bquestions td vd vl gp bversionsc kbversions fbversions bpersonsc kbpersons fbpersons bpapersc kbpapers fbpapers blinesc kblines fblines bstepsc kbsteps fbsteps bstampsc kbstamps fbstamps (hkbversions) (hkbpersons) (hkbpapers) (hkblines) (hkbsteps) (hkbstamps) (hVZ) (hSV) (hgp) (hSL) (by omega) (by omega)) si_X11_219 [0, 1, 2, 3, 4, 5, 6, 7, 8, 9, 10, 11, 12, 13, 14, 15, 16, 17, 18, 19, 20, 21, 22, 23, 24, 25] [26, 27] sm_0_1_2_3_4_5_6_7_8_9_10_11_12_13_14_15_16_17_18_19_20_21_22_23_24_25 fm_0_1_2_3_4_5_6_7_8_9_10_11_12_13_14_15_16_17_18_19_20_21_22_23_24_25 nd_0_1_2_3_4_5_6_7_8_9_10_11_12_13_14_15_16_17_18_19_20_21_22_23_24_25 sm_26_27 nd_26_27 dj_0_1_2_3_4_5_6_7_8_9_10_11_12_13_14_15_16_17_18_19_20_21_22_23_24_25__26_27 rfl rfl rfl rfl rfl (Nat.le_of_ble_eq_true rfl) rm_7_6_5 ⟨Nat.le_of_ble_eq_true rfl, Nat.le_of_ble_eq_true rfl⟩ gX11_stands_3.2.2.1 (fun r4051 => Ktu13 fun cl14053 gclm4054 gfi4055 gla4056 gml4057 gmm4058 gsl4059 gsm4060 r114061 rc14062 rh14063 gfc4064 gsh4065 => ?_)
  intro H locs hr4051 hP hD hS
  try dsimp only at hr4051
  refine Kpdr (ws := [(bfindings, oX8 12 4 bfindingsc (nI kbfindings)), (bfindingsc, iA G 48 fbfindings), (h0, oX11 bb kk ikp sg do9 ru9 ta9 tp9 ro9 ho9 de9), (sg, oX7 bb clk fi la ml mm sl sm cl14053), (clk, oX1 clm), (clm, iA G 36 gclm4054), (fi, iA G 12 gfi4055), (la, iA G 12 gla4056), (ml, iA G 12 gml4057), (mm, iA G 12 gmm4058), (sl, iA G 12 gsl4059), (sm, iA G 12 gsm4060), (ru9, oX6 bb sg fc sh r114061 rc14062 rh14063), (fc, iA G 5 gfc4064), (sh, iA G 8 gsh4065), (bb, oX0 bpersons bpapers bstamps bversions blines bsteps bsayings bfindings bwarnings bquestions td vd vl gp), (bversions, oX8 8 3 bversionsc (nI kbversions)), (bversionsc, iA G 24 fbversions), (bpersons, oX8 10 2 bpersonsc (nI kbpersons)), (bpersonsc, iA G 20 fbpersons), (bpapers, oX8 12 6 bpapersc (nI kbpapers)), (bpapersc, iA G 72 fbpapers), (blines, oX8 72 7 blinesc (nI kblines)), (blinesc, iA G 504 fblines), (bsteps, oX8 960 1 bstepsc (nI kbsteps)), (bstepsc, iA G 960 fbsteps), (bstamps, oX8 24 3 bstampsc (nI kbstamps)), (bstampsc, iA G 72 fbstamps)]) hP hD (fun hP hD => ?_)
  obtain ⟨hr4051, w4066⟩ := hr4051
  obtain ⟨w9_4067, hpx4067, hpe4067⟩ := hr4051
  subst r4051
  try dsimp only at hpx4067
  refine lv_icmp_lt (tgt := 70) hx hb gX11_stands_3.2.2.2.1 (by decide) (fun c_63_4068 => ?_) (fun c_63_4068 => ?_)
  · refine lv_iconst (v := 0) hx hb gX11_stands_3.2.2.2.2.2.2.1 (by decide) ?_
    refine toQ hQ0 ?_
    exact RI (v := 0) hC hP hD hS [2, 3, 4, 5, 6, 7, 8, 9, 10, 11, 12, 13, 14, 15, 16, 17, 18, 19, 20, 21, 22, 23, 24, 25, 26, 27, 0, 1] (cl14053, gclm4054, gfi4055, gla4056, gml4057, gmm4058, gsl4059, gsm4060, r114061, rc14062, rh14063, gfc4064, gsh4065) rfl rfl (by decide) (⟨Or.inr ⟨rfl, fun h9 => Int32.not_le.mpr c_63_4068 ((STD.iff (LV := (fun e9 => LVF (LNF (RLO DY (DAYV td vd) kbversions) VL) (TRF (RLO DY (DAYV td vd) kbversions) VC (FAX fbpersons fbpapers (VPP pp) kbpapers e9)))) (ff := fbfindings) (s := jf) e90 e91 (by omega) hjt hf9.2.2.1 (by decide) hpx4067).mpr h9)⟩, w4066⟩) (by decide +kernel) gX11_stands_3.2.2.2.2.2.2.2
  · refine lv_iconst (v := 1) hx hb gX11_stands_3.2.2.2.2.1 (by decide) ?_
    refine lv_goto (tgt := 71) hx hb gX11_stands_3.2.2.2.2.2.1 (by decide) ?_
    refine toQ hQ0 ?_
    exact RI (v := 1) hC hP hD hS [2, 3, 4, 5, 6, 7, 8, 9, 10, 11, 12, 13, 14, 15, 16, 17, 18, 19, 20, 21, 22, 23, 24, 25, 26, 27, 0, 1] (cl14053, gclm4054, gfi4055, gla4056, gml4057, gmm4058, gsl4059, gsm4060, r114061, rc14062, rh14063, gfc4064, gsh4065) rfl rfl (by decide) (⟨Or.inl ⟨rfl, (STD.iff (LV := (fun e9 => LVF (LNF (RLO DY (DAYV td vd) kbversions) VL) (TRF (RLO DY (DAYV td vd) kbversions) VC (FAX fbpersons fbpapers (VPP pp) kbpapers e9)))) (ff := fbfindings) (s := jf) e90 e91 (by omega) hjt hf9.2.2.1 (by decide) hpx4067).mp (Int32.not_lt.mp c_63_4068)⟩, w4066⟩) (by decide +kernel) gX11_stands_3.2.2.2.2.2.2.2
def K_c_countStandingX (l : Launch) (G : GG) (VL : Nat → List LNT) (VC : Nat → Nat → List Int32) (DY : Nat → Int32) (h0 : Nat) (pp : Int32) (bb : Nat) (kk : Nat) (ikp : Int32) (sg : Nat) (do9 : Nat) (ru9 : Nat) (ta9 : Nat) (tp9 : Nat) (ro9 : Nat) (ho9 : Nat) (de9 : Nat) (clk : Nat) (fi : Nat) (la : Nat) (ml : Nat) (mm : Nat) (sl : Nat) (sm : Nat) (cl : Int32) (clm : Nat) (fclm : Nat → Int32) (ffi : Nat → Int32) (fla : Nat → Int32) (fml : Nat → Int32) (fmm : Nat → Int32) (fsl : Nat → Int32) (fsm : Nat → Int32) (fc : Nat) (sh : Nat) (r1 : Int32) (rc : Int32) (rh : Int32) (ffc : Nat → Int32) (fsh : Nat → Int32) (bpersons : Nat) (bpapers : Nat) (bstamps : Nat) (bversions : Nat) (blines : Nat) (bsteps : Nat) (bsayings : Nat) (bfindings : Nat) (bwarnings : Nat) (bquestions : Nat) (td : Int32) (vd : Int32) (vl : Int32) (gp : Int32) (bversionsc : Nat) (kbversions : Nat) (fbversions : Nat → Int32) (bpersonsc : Nat) (kbpersons : Nat) (fbpersons : Nat → Int32) (bpapersc : Nat) (kbpapers : Nat) (fbpapers : Nat → Int32) (blinesc : Nat) (kblines : Nat) (fblines : Nat → Int32) (bstepsc : Nat) (kbsteps : Nat) (fbsteps : Nat → Int32) (bstampsc : Nat) (kbstamps : Nat) (fbstamps : Nat → Int32) (bfindingsc : Nat) (kbfindings : Nat) (fbfindings : Nat → Int32) : Prop := MI l G yX11_countStanding cX11_countStanding 4 (some .int) 8 0 0 [.ref h0, .int pp] [(h0, oX11 bb kk ikp sg do9 ru9 ta9 tp9 ro9 ho9 de9), (sg, oX7 bb clk fi la ml mm sl sm cl), (clk, oX1 clm), (clm, iA G 36 fclm), (fi, iA G 12 ffi), (la, iA G 12 fla), (ml, iA G 12 fml), (mm, iA G 12 fmm), (sl, iA G 12 fsl), (sm, iA G 12 fsm), (ru9, oX6 bb sg fc sh r1 rc rh), (fc, iA G 5 ffc), (sh, iA G 8 fsh), (bb, oX0 bpersons bpapers bstamps bversions blines bsteps bsayings bfindings bwarnings bquestions td vd vl gp), (bversions, oX8 8 3 bversionsc (nI kbversions)), (bversionsc, iA G 24 fbversions), (bpersons, oX8 10 2 bpersonsc (nI kbpersons)), (bpersonsc, iA G 20 fbpersons), (bpapers, oX8 12 6 bpapersc (nI kbpapers)), (bpapersc, iA G 72 fbpapers), (blines, oX8 72 7 blinesc (nI kblines)), (blinesc, iA G 504 fblines), (bsteps, oX8 960 1 bstepsc (nI kbsteps)), (bstepsc, iA G 960 fbsteps), (bstamps, oX8 24 3 bstampsc (nI kbstamps)), (bstampsc, iA G 72 fbstamps), (bfindings, oX8 12 4 bfindingsc (nI kbfindings)), (bfindingsc, iA G 48 fbfindings)] (fun (r : Int32) (u : Int32 × (Nat → Int32) × (Nat → Int32) × (Nat → Int32) × (Nat → Int32) × (Nat → Int32) × (Nat → Int32) × (Nat → Int32) × Int32 × Int32 × Int32 × (Nat → Int32) × (Nat → Int32)) => (r = (CNT (STD (KST fbstamps (VPP pp) gp.toInt kbstamps) fbstamps (VPP pp) fbpapers fbpersons kbstamps kbpapers (fun e9 => LVF (LNF (RLO DY (DAYV td vd) kbversions) VL) (TRF (RLO DY (DAYV td vd) kbversions) VC (FAX fbpersons fbpapers (VPP pp) kbpapers e9))) (LVN (RLO DY (DAYV td vd) kbversions) VL) fbfindings) kbfindings)) ∧ (u.1 = 0 ∨ u.1 = 1)) (fun u : Int32 × (Nat → Int32) × (Nat → Int32) × (Nat → Int32) × (Nat → Int32) × (Nat → Int32) × (Nat → Int32) × (Nat → Int32) × Int32 × Int32 × Int32 × (Nat → Int32) × (Nat → Int32) => [(h0, oX11 bb kk ikp sg do9 ru9 ta9 tp9 ro9 ho9 de9), (sg, oX7 bb clk fi la ml mm sl sm u.1), (clk, oX1 clm), (clm, iA G 36 u.2.1), (fi, iA G 12 u.2.2.1), (la, iA G 12 u.2.2.2.1), (ml, iA G 12 u.2.2.2.2.1), (mm, iA G 12 u.2.2.2.2.2.1), (sl, iA G 12 u.2.2.2.2.2.2.1), (sm, iA G 12 u.2.2.2.2.2.2.2.1), (ru9, oX6 bb sg fc sh u.2.2.2.2.2.2.2.2.1 u.2.2.2.2.2.2.2.2.2.1 u.2.2.2.2.2.2.2.2.2.2.1), (fc, iA G 5 u.2.2.2.2.2.2.2.2.2.2.2.1), (sh, iA G 8 u.2.2.2.2.2.2.2.2.2.2.2.2), (bb, oX0 bpersons bpapers bstamps bversions blines bsteps bsayings bfindings bwarnings bquestions td vd vl gp), (bversions, oX8 8 3 bversionsc (nI kbversions)), (bversionsc, iA G 24 fbversions), (bpersons, oX8 10 2 bpersonsc (nI kbpersons)), (bpersonsc, iA G 20 fbpersons), (bpapers, oX8 12 6 bpapersc (nI kbpapers)), (bpapersc, iA G 72 fbpapers), (blines, oX8 72 7 blinesc (nI kblines)), (blinesc, iA G 504 fblines), (bsteps, oX8 960 1 bstepsc (nI kbsteps)), (bstepsc, iA G 960 fbsteps), (bstamps, oX8 24 3 bstampsc (nI kbstamps)), (bstampsc, iA G 72 fbstamps), (bfindings, oX8 12 4 bfindingsc (nI kbfindings)), (bfindingsc, iA G 48 fbfindings)])
set_option maxHeartbeats 4000000 in
set_option maxRecDepth 100000 in
theorem c_countStandingX (l : Launch) (G : GG) (VL : Nat → List LNT) (VC : Nat → Nat → List Int32) (DY : Nat → Int32) (h0 : Nat) (pp : Int32) (bb : Nat) (kk : Nat) (ikp : Int32) (sg : Nat) (do9 : Nat) (ru9 : Nat) (ta9 : Nat) (tp9 : Nat) (ro9 : Nat) (ho9 : Nat) (de9 : Nat) (clk : Nat) (fi : Nat) (la : Nat) (ml : Nat) (mm : Nat) (sl : Nat) (sm : Nat) (cl : Int32) (clm : Nat) (fclm : Nat → Int32) (ffi : Nat → Int32) (fla : Nat → Int32) (fml : Nat → Int32) (fmm : Nat → Int32) (fsl : Nat → Int32) (fsm : Nat → Int32) (fc : Nat) (sh : Nat) (r1 : Int32) (rc : Int32) (rh : Int32) (ffc : Nat → Int32) (fsh : Nat → Int32) (bpersons : Nat) (bpapers : Nat) (bstamps : Nat) (bversions : Nat) (blines : Nat) (bsteps : Nat) (bsayings : Nat) (bfindings : Nat) (bwarnings : Nat) (bquestions : Nat) (td : Int32) (vd : Int32) (vl : Int32) (gp : Int32) (bversionsc : Nat) (kbversions : Nat) (fbversions : Nat → Int32) (bpersonsc : Nat) (kbpersons : Nat) (fbpersons : Nat → Int32) (bpapersc : Nat) (kbpapers : Nat) (fbpapers : Nat → Int32) (blinesc : Nat) (kblines : Nat) (fblines : Nat → Int32) (bstepsc : Nat) (kbsteps : Nat) (fbsteps : Nat → Int32) (bstampsc : Nat) (kbstamps : Nat) (fbstamps : Nat → Int32) (bfindingsc : Nat) (kbfindings : Nat) (fbfindings : Nat → Int32) (hkbversions : kbversions ≤ 8) (hkbpersons : kbpersons ≤ 10) (hkbpapers : kbpapers ≤ 12) (hkblines : kblines ≤ 72) (hkbsteps : kbsteps ≤ 960) (hkbstamps : kbstamps ≤ 24) (hkbfindings : kbfindings ≤ 12) (hVZ : VCZ fbversions fblines fbsteps kbversions kblines kbsteps VL VC DY) (hSV : SVL fbstamps kbstamps) (hgp : GPR gp) (hSL : PSL fbpersons) (hFN : FNO fbfindings kbfindings kbpersons) (hcl : cl = 0 ∨ cl = 1) : K_c_countStandingX l G VL VC DY h0 pp bb kk ikp sg do9 ru9 ta9 tp9 ro9 ho9 de9 clk fi la ml mm sl sm cl clm fclm ffi fla fml fmm fsl fsm fc sh r1 rc rh ffc fsh bpersons bpapers bstamps bversions blines bsteps bsayings bfindings bwarnings bquestions td vd vl gp bversionsc kbversions fbversions bpersonsc kbpersons fbpersons bpapersc kbpapers fbpapers blinesc kblines fblines bstepsc kbsteps fbsteps bstampsc kbstamps fbstamps bfindingsc kbfindings fbfindings := by
  refine MI.start (by decide +kernel) (Nat.le_of_ble_eq_true rfl) ?_
  intro p e s m below meth c A ls hC hK hP hD hS hA hl
  refine absQ (fun Q0 hQ0 => ?_)
  have hl : lv_has ls 4 [(0, .ref h0), (1, .int pp)] := hl
  refine Kan8 hC (fun hx hb hr hml hB hown hlocks hnm => ?_)
  refine lv_iconst (v := 0) hx hb gX11_countStanding_0.1 (by decide) ?_
  refine lv_istore_n (lv' := [(2, .int 0), (0, .ref h0), (1, .int pp)]) hx hb gX11_countStanding_0.2.1 rfl hl (by decide) rfl (fun ls hl => ?_)
  refine lv_iconst (v := 0) hx hb gX11_countStanding_0.2.2.1 (by decide) ?_
  refine lv_istore_n (lv' := [(3, .int 0), (2, .int 0), (0, .ref h0), (1, .int pp)]) hx hb gX11_countStanding_0.2.2.2.1 rfl hl (by decide) rfl (fun ls hl => ?_)
  have keyP : ∀ (nP kP : Nat) (cn : Int32) (wcl : Int32) (wr1 : Int32) (wrc : Int32) (wrh : Int32) (vclm : Nat → Int32) (vfi : Nat → Int32) (vla : Nat → Int32) (vml : Nat → Int32) (vmm : Nat → Int32) (vsl : Nat → Int32) (vsm : Nat → Int32) (vfc : Nat → Int32) (vsh : Nat → Int32) (H : Heap) (locs : List Loc) (ls : Array Slot), kP + nP = kbfindings → (wcl = 0 ∨ wcl = 1) → (cn = CNT (STD (KST fbstamps (VPP pp) gp.toInt kbstamps) fbstamps (VPP pp) fbpapers fbpersons kbstamps kbpapers (fun e9 => LVF (LNF (RLO DY (DAYV td vd) kbversions) VL) (TRF (RLO DY (DAYV td vd) kbversions) VC (FAX fbpersons fbpapers (VPP pp) kbpapers e9))) (LVN (RLO DY (DAYV td vd) kbversions) VL) fbfindings) kP) → va_PD G A [(h0, oX11 bb kk ikp sg do9 ru9 ta9 tp9 ro9 ho9 de9), (sg, oX7 bb clk fi la ml mm sl sm wcl), (clk, oX1 clm), (clm, iA G 36 vclm), (fi, iA G 12 vfi), (la, iA G 12 vla), (ml, iA G 12 vml), (mm, iA G 12 vmm), (sl, iA G 12 vsl), (sm, iA G 12 vsm), (ru9, oX6 bb sg fc sh wr1 wrc wrh), (fc, iA G 5 vfc), (sh, iA G 8 vsh), (bb, oX0 bpersons bpapers bstamps bversions blines bsteps bsayings bfindings bwarnings bquestions td vd vl gp), (bversions, oX8 8 3 bversionsc (nI kbversions)), (bversionsc, iA G 24 fbversions), (bpersons, oX8 10 2 bpersonsc (nI kbpersons)), (bpersonsc, iA G 20 fbpersons), (bpapers, oX8 12 6 bpapersc (nI kbpapers)), (bpapersc, iA G 72 fbpapers), (blines, oX8 72 7 blinesc (nI kblines)), (blinesc, iA G 504 fblines), (bsteps, oX8 960 1 bstepsc (nI kbsteps)), (bstepsc, iA G 960 fbsteps), (bstamps, oX8 24 3 bstampsc (nI kbstamps)), (bstampsc, iA G 72 fbstamps), (bfindings, oX8 12 4 bfindingsc (nI kbfindings)), (bfindingsc, iA G 48 fbfindings)] H → va_S A s.heap H locs → lv_has ls 4 [(3, .int (nI kP)), (2, .int cn), (0, .ref h0), (1, .int pp)] → W p l e (RM 8 0 0) s m ([.ref h0, .int pp] : List Value).toArray below meth c H locs 0 0 Q0 (F0 m 4 ls []) := by
    intro nP
    induction nP with
    | zero =>
      intro kP cn wcl wr1 wrc wrh vclm vfi vla vml vmm vsl vsm vfc vsh H locs ls hkP hwcl hcn hPD hS hl
      refine Kan2 hPD (fun hP hD => ?_)
      obtain rfl : kbfindings = kP := by omega
      have hl : lv_has ls 4 [(3, .int (nI kbfindings)), (2, .int cn), (0, .ref h0), (1, .int pp)] := hl
      refine lv_iload_n hx hb gX11_countStanding_0.2.2.2.2.1 rfl (lv_at0 hl) ?_
      refine lv_aload_n hx hb gX11_countStanding_0.2.2.2.2.2.1 rfl (lv_at2 hl) ?_
      refine gf_X11_15 hC rfl hK hP 0 rfl rfl gX11_countStanding_0.2.2.2.2.2.2.1 ?_
      refine gf_X11_271 hC rfl hK hP 13 rfl rfl gX11_countStanding_0.2.2.2.2.2.2.2.1 ?_
      refine pV hC hK hl hP hD (c_T_count l G bfindings 12 4 bfindingsc kbfindings) si_X11_174 [26] sm_26 fm_26 nd_26 rfl rfl rfl rfl rfl (Nat.le_of_ble_eq_true rfl) rm_8_1_1 ⟨by first | exact Nat.le_of_ble_eq_true rfl | exact Nat.zero_le _, by first | exact Nat.le_of_ble_eq_true rfl | exact Nat.zero_le _⟩ gX11_countStanding_0.2.2.2.2.2.2.2.2.1 (Keqr ?_)
      refine lv_icmp_ge (tgt := 36) hx hb gX11_countStanding_0.2.2.2.2.2.2.2.2.2 (by decide) (fun _ => ?_) (fun c9 => absurd (Int32.le_refl _) c9)
      refine lv_iload_n hx hb gX11_countStanding_1.2.2.2.2.2.2.2.2.1 rfl (lv_at1 hl) ?_
      refine toQ hQ0 ?_
      exact RI (v := cn) hC hP hD hS [0, 1, 2, 3, 4, 5, 6, 7, 8, 9, 10, 11, 12, 13, 14, 15, 16, 17, 18, 19, 20, 21, 22, 23, 24, 25, 26, 27] (wcl, vclm, vfi, vla, vml, vmm, vsl, vsm, wr1, wrc, wrh, vfc, vsh) rfl rfl (by decide) (⟨hcn, hwcl⟩) rfl gX11_countStanding_1.2.2.2.2.2.2.2.2.2
    | succ nP ihP =>
      intro kP cn wcl wr1 wrc wrh vclm vfi vla vml vmm vsl vsm vfc vsh H locs ls hkP hwcl hcn hPD hS hl
      refine Kan2 hPD (fun hP hD => ?_)
      refine lv_iload_n hx hb gX11_countStanding_0.2.2.2.2.1 rfl (lv_at0 hl) ?_
      refine lv_aload_n hx hb gX11_countStanding_0.2.2.2.2.2.1 rfl (lv_at2 hl) ?_
      refine gf_X11_15 hC rfl hK hP 0 rfl rfl gX11_countStanding_0.2.2.2.2.2.2.1 ?_
      refine gf_X11_271 hC rfl hK hP 13 rfl rfl gX11_countStanding_0.2.2.2.2.2.2.2.1 ?_
      refine pV hC hK hl hP hD (c_T_count l G bfindings 12 4 bfindingsc kbfindings) si_X11_174 [26] sm_26 fm_26 nd_26 rfl rfl rfl rfl rfl (Nat.le_of_ble_eq_true rfl) rm_8_1_1 ⟨by first | exact Nat.le_of_ble_eq_true rfl | exact Nat.zero_le _, by first | exact Nat.le_of_ble_eq_true rfl | exact Nat.zero_le _⟩ gX11_countStanding_0.2.2.2.2.2.2.2.2.1 (Keqr ?_)
      refine lv_icmp_ge (tgt := 36) hx hb gX11_countStanding_0.2.2.2.2.2.2.2.2.2 (by decide) (fun c9 => absurd c9 (nI_ge (a := kP) (b := kbfindings) (by omega) (by omega))) (fun _ => ?_)
      refine lv_aload_n hx hb gX11_countStanding_1.1 rfl (lv_at2 hl) ?_
      refine lv_iload_n hx hb gX11_countStanding_1.2.1 rfl (lv_at0 hl) ?_
      refine lv_iload_n hx hb gX11_countStanding_1.2.2.1 rfl (lv_at3 hl) ?_
      refine iV (wr := []) hC hK hl hP hD hS hA (c_standsX l G VL VC DY h0 kP pp bb kk ikp sg do9 ru9 ta9 tp9 ro9 ho9 de9 clk fi la ml mm sl sm wcl clm vclm vfi vla vml vmm vsl vsm fc sh wr1 wrc wrh vfc vsh bpersons bpapers bstamps bversions blines bsteps bsayings bfindings bwarnings bquestions td vd vl gp bversionsc kbversions fbversions bpersonsc kbpersons fbpersons bpapersc kbpapers fbpapers blinesc kblines fblines bstepsc kbsteps fbsteps bstampsc kbstamps fbstamps bfindingsc kbfindings fbfindings (hkbversions) (hkbpersons) (hkbpapers) (hkblines) (hkbsteps) (hkbstamps) (hkbfindings) (hVZ) (hSV) (hgp) (hSL) (hFN) (by omega)) si_X11_274 [0, 1, 2, 3, 4, 5, 6, 7, 8, 9, 10, 11, 12, 13, 14, 15, 16, 17, 18, 19, 20, 21, 22, 23, 24, 25, 26, 27] [] sm_0_1_2_3_4_5_6_7_8_9_10_11_12_13_14_15_16_17_18_19_20_21_22_23_24_25_26_27 fm_0_1_2_3_4_5_6_7_8_9_10_11_12_13_14_15_16_17_18_19_20_21_22_23_24_25_26_27 nd_0_1_2_3_4_5_6_7_8_9_10_11_12_13_14_15_16_17_18_19_20_21_22_23_24_25_26_27 rfl rfl (by decide) rfl rfl rfl rfl rfl (Nat.le_of_ble_eq_true rfl) rm_8_7_6 ⟨Nat.le_of_ble_eq_true rfl, Nat.le_of_ble_eq_true rfl⟩ gX11_countStanding_1.2.2.2.1 (fun r4073 => Ktu13 fun cl14075 gclm4076 gfi4077 gla4078 gml4079 gmm4080 gsl4081 gsm4082 r114083 rc14084 rh14085 gfc4086 gsh4087 => ?_)
      intro H locs hr4073 hP hD hS
      try dsimp only at hr4073
      refine Kpdr (ws := [(h0, oX11 bb kk ikp sg do9 ru9 ta9 tp9 ro9 ho9 de9), (sg, oX7 bb clk fi la ml mm sl sm cl14075), (clk, oX1 clm), (clm, iA G 36 gclm4076), (fi, iA G 12 gfi4077), (la, iA G 12 gla4078), (ml, iA G 12 gml4079), (mm, iA G 12 gmm4080), (sl, iA G 12 gsl4081), (sm, iA G 12 gsm4082), (ru9, oX6 bb sg fc sh r114083 rc14084 rh14085), (fc, iA G 5 gfc4086), (sh, iA G 8 gsh4087), (bb, oX0 bpersons bpapers bstamps bversions blines bsteps bsayings bfindings bwarnings bquestions td vd vl gp), (bversions, oX8 8 3 bversionsc (nI kbversions)), (bversionsc, iA G 24 fbversions), (bpersons, oX8 10 2 bpersonsc (nI kbpersons)), (bpersonsc, iA G 20 fbpersons), (bpapers, oX8 12 6 bpapersc (nI kbpapers)), (bpapersc, iA G 72 fbpapers), (blines, oX8 72 7 blinesc (nI kblines)), (blinesc, iA G 504 fblines), (bsteps, oX8 960 1 bstepsc (nI kbsteps)), (bstepsc, iA G 960 fbsteps), (bstamps, oX8 24 3 bstampsc (nI kbstamps)), (bstampsc, iA G 72 fbstamps), (bfindings, oX8 12 4 bfindingsc (nI kbfindings)), (bfindingsc, iA G 48 fbfindings)]) hP hD (fun hP hD => ?_)
      obtain ⟨hr4073, w4088⟩ := hr4073
      rcases hr4073 with ⟨rfl, a4089⟩ | ⟨rfl, a4089⟩
      · refine lv_if_eq (tgt := 30) hx hb gX11_countStanding_1.2.2.2.2.1 (by decide) (fun c9 => absurd c9 (by decide)) (fun _ => ?_)
        refine lv_iinc (v := cn + 1) (lv' := [(2, .int (cn + 1)), (3, .int (nI kP)), (0, .ref h0), (1, .int pp)]) hx hb gX11_countStanding_1.2.2.2.2.2.1 hl (k := 1) rfl (rfl) (by decide) rfl (fun ls hl => ?_)
        refine lv_iinc (v := nI (kP + 1)) (lv' := [(3, .int (nI (kP + 1))), (2, .int (cn + 1)), (0, .ref h0), (1, .int pp)]) hx hb gX11_countStanding_1.2.2.2.2.2.2.1 hl (k := 1) rfl (nI_1 _) (by decide) rfl (fun ls hl => ?_)
        refine lv_goto (tgt := 4) hx hb gX11_countStanding_1.2.2.2.2.2.2.2.1 (by decide) ?_
        have hst9 : cn + 1 = CNT (STD (KST fbstamps (VPP pp) gp.toInt kbstamps) fbstamps (VPP pp) fbpapers fbpersons kbstamps kbpapers (fun e9 => LVF (LNF (RLO DY (DAYV td vd) kbversions) VL) (TRF (RLO DY (DAYV td vd) kbversions) VC (FAX fbpersons fbpapers (VPP pp) kbpapers e9))) (LVN (RLO DY (DAYV td vd) kbversions) VL) fbfindings) (kP + 1) := CNT.y hcn a4089
        exact ihP (kP + 1) (cn + 1) cl14075 r114083 rc14084 rh14085 gclm4076 gfi4077 gla4078 gml4079 gmm4080 gsl4081 gsm4082 gfc4086 gsh4087 _ _ _ (by omega) (by first | assumption | exact Or.inl rfl | exact Or.inr rfl | exact rfl | exact hcl) (by first | assumption | exact Or.inl rfl | exact Or.inr rfl | exact rfl | exact hcl) (And.intro hP hD) hS (lv_sub hl [0, 1, 2, 3] rfl)
      · refine lv_if_eq (tgt := 30) hx hb gX11_countStanding_1.2.2.2.2.1 (by decide) (fun _ => ?_) (fun c9 => absurd (by decide) c9)
        refine lv_iinc (v := nI (kP + 1)) (lv' := [(3, .int (nI (kP + 1))), (2, .int cn), (0, .ref h0), (1, .int pp)]) hx hb gX11_countStanding_1.2.2.2.2.2.2.1 hl (k := 0) rfl (nI_1 _) (by decide) rfl (fun ls hl => ?_)
        refine lv_goto (tgt := 4) hx hb gX11_countStanding_1.2.2.2.2.2.2.2.1 (by decide) ?_
        have hst9 : cn = CNT (STD (KST fbstamps (VPP pp) gp.toInt kbstamps) fbstamps (VPP pp) fbpapers fbpersons kbstamps kbpapers (fun e9 => LVF (LNF (RLO DY (DAYV td vd) kbversions) VL) (TRF (RLO DY (DAYV td vd) kbversions) VC (FAX fbpersons fbpapers (VPP pp) kbpapers e9))) (LVN (RLO DY (DAYV td vd) kbversions) VL) fbfindings) (kP + 1) := CNT.n hcn a4089
        exact ihP (kP + 1) cn cl14075 r114083 rc14084 rh14085 gclm4076 gfi4077 gla4078 gml4079 gmm4080 gsl4081 gsm4082 gfc4086 gsh4087 _ _ _ (by omega) (by first | assumption | exact Or.inl rfl | exact Or.inr rfl | exact rfl | exact hcl) (by first | assumption | exact Or.inl rfl | exact Or.inr rfl | exact rfl | exact hcl) (And.intro hP hD) hS (lv_sub hl [0, 1, 2, 3] rfl)
  exact keyP kbfindings 0 0 cl r1 rc rh fclm ffi fla fml fmm fsl fsm ffc fsh _ _ _ (by omega) (by first | assumption | exact Or.inl rfl | exact Or.inr rfl | exact rfl | exact hcl) (by first | assumption | exact Or.inl rfl | exact Or.inr rfl | exact rfl | exact hcl) (And.intro hP hD) hS (lv_sub hl [0, 1, 2, 3] rfl)
def K_c_countSayingsX (l : Launch) (G : GG) (h0 : Nat) (bpersons : Nat) (bpapers : Nat) (bstamps : Nat) (bversions : Nat) (blines : Nat) (bsteps : Nat) (bsayings : Nat) (bfindings : Nat) (bwarnings : Nat) (bquestions : Nat) (td : Int32) (vd : Int32) (vl : Int32) (gp : Int32) (bsayingsc : Nat) (kbsayings : Nat) (fbsayings : Nat → Int32) (bpapersc : Nat) (kbpapers : Nat) (fbpapers : Nat → Int32) : Prop := MP l G yX0_countSayings cX0_countSayings 4 (some .int) 4 [.ref h0, .int (IVW fbpapers td vd vl kbpapers)] [(h0, oX0 bpersons bpapers bstamps bversions blines bsteps bsayings bfindings bwarnings bquestions td vd vl gp), (bsayings, oX8 16 8 bsayingsc (nI kbsayings)), (bsayingsc, iA G 128 fbsayings), (bpapers, oX8 12 6 bpapersc (nI kbpapers)), (bpapersc, iA G 72 fbpapers)] (fun r : Int32 => r = (CNT (CSQ fbsayings fbpapers td vd vl) kbsayings))
set_option maxHeartbeats 4000000 in
set_option maxRecDepth 100000 in
theorem c_countSayingsX (l : Launch) (G : GG) (h0 : Nat) (bpersons : Nat) (bpapers : Nat) (bstamps : Nat) (bversions : Nat) (blines : Nat) (bsteps : Nat) (bsayings : Nat) (bfindings : Nat) (bwarnings : Nat) (bquestions : Nat) (td : Int32) (vd : Int32) (vl : Int32) (gp : Int32) (bsayingsc : Nat) (kbsayings : Nat) (fbsayings : Nat → Int32) (bpapersc : Nat) (kbpapers : Nat) (fbpapers : Nat → Int32) (hkbsayings : kbsayings ≤ 16) (hkbpapers : kbpapers ≤ 12) (hSP : SPI fbsayings kbsayings kbpapers) : K_c_countSayingsX l G h0 bpersons bpapers bstamps bversions blines bsteps bsayings bfindings bwarnings bquestions td vd vl gp bsayingsc kbsayings fbsayings bpapersc kbpapers fbpapers := by
  refine MP.start (by decide +kernel) (Nat.le_of_ble_eq_true rfl) ?_
  intro p e s m below meth c ls hC hK hP hD hl
  refine absQ (fun Q0 hQ0 => ?_)
  have hl : lv_has ls 4 [(0, .ref h0), (1, .int (IVW fbpapers td vd vl kbpapers))] := hl
  refine Kan8 hC (fun hx hb hr hml hB hown hlocks hnm => ?_)
  refine lv_iconst (v := 0) hx hb gX0_countSayings_0.1 (by decide) ?_
  refine lv_istore_n (lv' := [(2, .int 0), (0, .ref h0), (1, .int (IVW fbpapers td vd vl kbpapers))]) hx hb gX0_countSayings_0.2.1 rfl hl (by decide) rfl (fun ls hl => ?_)
  refine lv_iconst (v := 0) hx hb gX0_countSayings_0.2.2.1 (by decide) ?_
  refine lv_istore_n (lv' := [(3, .int 0), (2, .int 0), (0, .ref h0), (1, .int (IVW fbpapers td vd vl kbpapers))]) hx hb gX0_countSayings_0.2.2.2.1 rfl hl (by decide) rfl (fun ls hl => ?_)
  have keyP : ∀ (nP kP : Nat) (cn : Int32) (ls : Array Slot), kP + nP = kbsayings → (cn = CNT (CSQ fbsayings fbpapers td vd vl) kP) → lv_has ls 4 [(3, .int (nI kP)), (2, .int cn), (0, .ref h0), (1, .int (IVW fbpapers td vd vl kbpapers))] → W p l e (RM 4 0 0) s m ([.ref h0, .int (IVW fbpapers td vd vl kbpapers)] : List Value).toArray below meth c s.heap [] 0 0 Q0 (F0 m 4 ls []) := by
    intro nP
    induction nP with
    | zero =>
      intro kP cn ls hkP hcn hl
      obtain rfl : kbsayings = kP := by omega
      have hl : lv_has ls 4 [(3, .int (nI kbsayings)), (2, .int cn), (0, .ref h0), (1, .int (IVW fbpapers td vd vl kbpapers))] := hl
      refine lv_iload_n hx hb gX0_countSayings_0.2.2.2.2.1 rfl (lv_at0 hl) ?_
      refine lv_aload_n hx hb gX0_countSayings_0.2.2.2.2.2.1 rfl (lv_at2 hl) ?_
      refine gf_X0_35 hC rfl hK hP 0 rfl rfl gX0_countSayings_0.2.2.2.2.2.2.1 ?_
      refine pV hC hK hl hP hD (c_T_count l G bsayings 16 8 bsayingsc kbsayings) si_X0_68 [1] sm_1 fm_1 nd_1 rfl rfl rfl rfl rfl (Nat.le_of_ble_eq_true rfl) rm_4_1_1 ⟨by first | exact Nat.le_of_ble_eq_true rfl | exact Nat.zero_le _, by first | exact Nat.le_of_ble_eq_true rfl | exact Nat.zero_le _⟩ gX0_countSayings_0.2.2.2.2.2.2.2.1 (Keqr ?_)
      refine lv_icmp_ge (tgt := 33) hx hb gX0_countSayings_0.2.2.2.2.2.2.2.2.1 (by decide) (fun _ => ?_) (fun c9 => absurd (Int32.le_refl _) c9)
      refine lv_iload_n hx hb gX0_countSayings_1.2.2.2.2.2.2.2.1 rfl (lv_at1 hl) ?_
      refine toQ hQ0 ?_
      exact RP (v := cn) hC (hcn) rfl gX0_countSayings_1.2.2.2.2.2.2.2.2
    | succ nP ihP =>
      intro kP cn ls hkP hcn hl
      refine lv_iload_n hx hb gX0_countSayings_0.2.2.2.2.1 rfl (lv_at0 hl) ?_
      refine lv_aload_n hx hb gX0_countSayings_0.2.2.2.2.2.1 rfl (lv_at2 hl) ?_
      refine gf_X0_35 hC rfl hK hP 0 rfl rfl gX0_countSayings_0.2.2.2.2.2.2.1 ?_
      refine pV hC hK hl hP hD (c_T_count l G bsayings 16 8 bsayingsc kbsayings) si_X0_68 [1] sm_1 fm_1 nd_1 rfl rfl rfl rfl rfl (Nat.le_of_ble_eq_true rfl) rm_4_1_1 ⟨by first | exact Nat.le_of_ble_eq_true rfl | exact Nat.zero_le _, by first | exact Nat.le_of_ble_eq_true rfl | exact Nat.zero_le _⟩ gX0_countSayings_0.2.2.2.2.2.2.2.1 (Keqr ?_)
      refine lv_icmp_ge (tgt := 33) hx hb gX0_countSayings_0.2.2.2.2.2.2.2.2.1 (by decide) (fun c9 => absurd c9 (nI_ge (a := kP) (b := kbsayings) (by omega) (by omega))) (fun _ => ?_)
      refine lv_aload_n hx hb gX0_countSayings_0.2.2.2.2.2.2.2.2.2 rfl (lv_at2 hl) ?_
      refine lv_iload_n hx hb gX0_countSayings_1.1 rfl (lv_at0 hl) ?_
      refine lv_iload_n hx hb gX0_countSayings_1.2.1 rfl (lv_at3 hl) ?_
      refine pV hC hK hl hP hD (c_countsX l G h0 kP bpersons bpapers bstamps bversions blines bsteps bsayings bfindings bwarnings bquestions td vd vl gp bsayingsc kbsayings fbsayings bpapersc kbpapers fbpapers (hkbsayings) (hkbpapers) (hSP) (by omega)) si_X0_86 [0, 1, 2, 3, 4] sm_0_1_2_3_4 fm_0_1_2_3_4 nd_0_1_2_3_4 rfl rfl rfl rfl rfl (Nat.le_of_ble_eq_true rfl) rm_4_3_3 ⟨by first | exact Nat.le_of_ble_eq_true rfl | exact Nat.zero_le _, by first | exact Nat.le_of_ble_eq_true rfl | exact Nat.zero_le _⟩ gX0_countSayings_1.2.2.1 (Kors (Keqa fun a4095 => ?_) (Keqa fun a4095 => ?_))
      · refine lv_if_eq (tgt := 27) hx hb gX0_countSayings_1.2.2.2.1 (by decide) (fun c9 => absurd c9 (by decide)) (fun _ => ?_)
        refine lv_iinc (v := cn + 1) (lv' := [(2, .int (cn + 1)), (3, .int (nI kP)), (0, .ref h0), (1, .int (IVW fbpapers td vd vl kbpapers))]) hx hb gX0_countSayings_1.2.2.2.2.1 hl (k := 1) rfl (rfl) (by decide) rfl (fun ls hl => ?_)
        refine lv_iinc (v := nI (kP + 1)) (lv' := [(3, .int (nI (kP + 1))), (2, .int (cn + 1)), (0, .ref h0), (1, .int (IVW fbpapers td vd vl kbpapers))]) hx hb gX0_countSayings_1.2.2.2.2.2.1 hl (k := 1) rfl (nI_1 _) (by decide) rfl (fun ls hl => ?_)
        refine lv_goto (tgt := 4) hx hb gX0_countSayings_1.2.2.2.2.2.2.1 (by decide) ?_
        have hst9 : cn + 1 = CNT (CSQ fbsayings fbpapers td vd vl) (kP + 1) := CNT.y hcn a4095
        exact ihP (kP + 1) (cn + 1) _ (by omega) (by first | assumption | exact Or.inl rfl | exact Or.inr rfl | exact rfl) (lv_sub hl [0, 1, 2, 3] rfl)
      · refine lv_if_eq (tgt := 27) hx hb gX0_countSayings_1.2.2.2.1 (by decide) (fun _ => ?_) (fun c9 => absurd (by decide) c9)
        refine lv_iinc (v := nI (kP + 1)) (lv' := [(3, .int (nI (kP + 1))), (2, .int cn), (0, .ref h0), (1, .int (IVW fbpapers td vd vl kbpapers))]) hx hb gX0_countSayings_1.2.2.2.2.2.1 hl (k := 0) rfl (nI_1 _) (by decide) rfl (fun ls hl => ?_)
        refine lv_goto (tgt := 4) hx hb gX0_countSayings_1.2.2.2.2.2.2.1 (by decide) ?_
        have hst9 : cn = CNT (CSQ fbsayings fbpapers td vd vl) (kP + 1) := CNT.n hcn a4095
        exact ihP (kP + 1) cn _ (by omega) (by first | assumption | exact Or.inl rfl | exact Or.inr rfl | exact rfl) (lv_sub hl [0, 1, 2, 3] rfl)
  exact keyP kbsayings 0 0 _ (by omega) (by first | assumption | exact Or.inl rfl | exact Or.inr rfl | exact rfl) (lv_sub hl [0, 1, 2, 3] rfl)
def K_p_many (l : Launch) (G : GG) (VL : Nat → List LNT) (VC : Nat → Nat → List Int32) (DY : Nat → Int32) (h0 : Nat) (x1 : Int32) (bb : Nat) (kk : Nat) (ikp : Int32) (sg : Nat) (do9 : Nat) (ru9 : Nat) (ta9 : Nat) (tp9 : Nat) (ro9 : Nat) (ho9 : Nat) (de9 : Nat) (clk : Nat) (fi : Nat) (la : Nat) (ml : Nat) (mm : Nat) (sl : Nat) (sm : Nat) (cl : Int32) (clm : Nat) (fclm : Nat → Int32) (ffi : Nat → Int32) (fla : Nat → Int32) (fml : Nat → Int32) (fmm : Nat → Int32) (fsl : Nat → Int32) (fsm : Nat → Int32) (fc : Nat) (sh : Nat) (r1 : Int32) (rc : Int32) (rh : Int32) (ffc : Nat → Int32) (fsh : Nat → Int32) (bpersons : Nat) (bpapers : Nat) (bstamps : Nat) (bversions : Nat) (blines : Nat) (bsteps : Nat) (bsayings : Nat) (bfindings : Nat) (bwarnings : Nat) (bquestions : Nat) (td : Int32) (vd : Int32) (vl : Int32) (gp : Int32) (bversionsc : Nat) (kbversions : Nat) (fbversions : Nat → Int32) (bpersonsc : Nat) (kbpersons : Nat) (fbpersons : Nat → Int32) (bpapersc : Nat) (kbpapers : Nat) (fbpapers : Nat → Int32) (blinesc : Nat) (kblines : Nat) (fblines : Nat → Int32) (bstepsc : Nat) (kbsteps : Nat) (fbsteps : Nat → Int32) (bstampsc : Nat) (kbstamps : Nat) (fbstamps : Nat → Int32) (bfindingsc : Nat) (kbfindings : Nat) (fbfindings : Nat → Int32) (bsayingsc : Nat) (kbsayings : Nat) (fbsayings : Nat → Int32) (bwarningsc : Nat) (kbwarnings : Nat) (bquestionsc : Nat) (kbquestions : Nat) (rr : Nat) (tc : Nat) (asd : Int32) (st9 : Int32) (tol : Int32) (rrc : Nat) (kr : Nat) (tby : Nat) (kt : Nat) (tln : Nat) (tsp : Nat) (tkd : Int32) (ts9 : Int32) (tn9 : Int32) (tf9 : Int32) (tr9 : Nat) (jr : Nat) (dk : Int32) (dn : Int32) (dp : Int32) (da : Int32) (dq : Int32) : Prop := MI l G yX11_many cX11_many 2 (some .int) 10 0 0 [.ref h0, .int x1] [(h0, oX11 bb kk ikp sg do9 ru9 ta9 tp9 ro9 ho9 de9), (sg, oX7 bb clk fi la ml mm sl sm cl), (clk, oX1 clm), (clm, iA G 36 fclm), (fi, iA G 12 ffi), (la, iA G 12 fla), (ml, iA G 12 fml), (mm, iA G 12 fmm), (sl, iA G 12 fsl), (sm, iA G 12 fsm), (ru9, oX6 bb sg fc sh r1 rc rh), (fc, iA G 5 ffc), (sh, iA G 8 fsh), (bb, oX0 bpersons bpapers bstamps bversions blines bsteps bsayings bfindings bwarnings bquestions td vd vl gp), (bversions, oX8 8 3 bversionsc (nI kbversions)), (bversionsc, iA G 24 fbversions), (bpersons, oX8 10 2 bpersonsc (nI kbpersons)), (bpersonsc, iA G 20 fbpersons), (bpapers, oX8 12 6 bpapersc (nI kbpapers)), (bpapersc, iA G 72 fbpapers), (blines, oX8 72 7 blinesc (nI kblines)), (blinesc, iA G 504 fblines), (bsteps, oX8 960 1 bstepsc (nI kbsteps)), (bstepsc, iA G 960 fbsteps), (bstamps, oX8 24 3 bstampsc (nI kbstamps)), (bstampsc, iA G 72 fbstamps), (bfindings, oX8 12 4 bfindingsc (nI kbfindings)), (bfindingsc, iA G 48 fbfindings), (bsayings, oX8 16 8 bsayingsc (nI kbsayings)), (bsayingsc, iA G 128 fbsayings), (bwarnings, oX8 16 3 bwarningsc (nI kbwarnings)), (bquestions, oX8 7 2 bquestionsc (nI kbquestions)), (ro9, oX5 bb rr tc asd st9 tol), (rr, oX8 7 2 rrc (nI kr)), (tp9, oX10 tby (nI kt) tln tsp tkd ts9 tn9 tf9), (de9, oX2 bb tr9 (nI jr) dk dn dp da dq)] (fun (r : Int32) (u : Int32 × (Nat → Int32) × (Nat → Int32) × (Nat → Int32) × (Nat → Int32) × (Nat → Int32) × (Nat → Int32) × (Nat → Int32) × Int32 × Int32 × Int32 × (Nat → Int32) × (Nat → Int32)) => (∃ s9, (MNY [td, nI kbpersons, nI kbpapers, BCN (IVW fbpapers td vd vl kbpapers), nI kbstamps, nI kbversions, nI kbsayings, CNT (CSQ fbsayings fbpapers td vd vl) kbsayings, nI kbfindings, CNT (STD (KST fbstamps (VPP (IVW fbpapers td vd vl kbpapers)) gp.toInt kbstamps) fbstamps (VPP (IVW fbpapers td vd vl kbpapers)) fbpapers fbpersons kbstamps kbpapers (fun e9 => LVF (LNF (RLO DY (DAYV td vd) kbversions) VL) (TRF (RLO DY (DAYV td vd) kbversions) VC (FAX fbpersons fbpapers (VPP (IVW fbpapers td vd vl kbpapers)) kbpapers e9))) (LVN (RLO DY (DAYV td vd) kbversions) VL) fbfindings) kbfindings, nI kbwarnings, nI kbquestions, nI kr, nI kt, nI jr] x1 s9) ∧ r = s9) ∧ (u.1 = 0 ∨ u.1 = 1)) (fun u : Int32 × (Nat → Int32) × (Nat → Int32) × (Nat → Int32) × (Nat → Int32) × (Nat → Int32) × (Nat → Int32) × (Nat → Int32) × Int32 × Int32 × Int32 × (Nat → Int32) × (Nat → Int32) => [(h0, oX11 bb kk ikp sg do9 ru9 ta9 tp9 ro9 ho9 de9), (sg, oX7 bb clk fi la ml mm sl sm u.1), (clk, oX1 clm), (clm, iA G 36 u.2.1), (fi, iA G 12 u.2.2.1), (la, iA G 12 u.2.2.2.1), (ml, iA G 12 u.2.2.2.2.1), (mm, iA G 12 u.2.2.2.2.2.1), (sl, iA G 12 u.2.2.2.2.2.2.1), (sm, iA G 12 u.2.2.2.2.2.2.2.1), (ru9, oX6 bb sg fc sh u.2.2.2.2.2.2.2.2.1 u.2.2.2.2.2.2.2.2.2.1 u.2.2.2.2.2.2.2.2.2.2.1), (fc, iA G 5 u.2.2.2.2.2.2.2.2.2.2.2.1), (sh, iA G 8 u.2.2.2.2.2.2.2.2.2.2.2.2), (bb, oX0 bpersons bpapers bstamps bversions blines bsteps bsayings bfindings bwarnings bquestions td vd vl gp), (bversions, oX8 8 3 bversionsc (nI kbversions)), (bversionsc, iA G 24 fbversions), (bpersons, oX8 10 2 bpersonsc (nI kbpersons)), (bpersonsc, iA G 20 fbpersons), (bpapers, oX8 12 6 bpapersc (nI kbpapers)), (bpapersc, iA G 72 fbpapers), (blines, oX8 72 7 blinesc (nI kblines)), (blinesc, iA G 504 fblines), (bsteps, oX8 960 1 bstepsc (nI kbsteps)), (bstepsc, iA G 960 fbsteps), (bstamps, oX8 24 3 bstampsc (nI kbstamps)), (bstampsc, iA G 72 fbstamps), (bfindings, oX8 12 4 bfindingsc (nI kbfindings)), (bfindingsc, iA G 48 fbfindings), (bsayings, oX8 16 8 bsayingsc (nI kbsayings)), (bsayingsc, iA G 128 fbsayings), (bwarnings, oX8 16 3 bwarningsc (nI kbwarnings)), (bquestions, oX8 7 2 bquestionsc (nI kbquestions)), (ro9, oX5 bb rr tc asd st9 tol), (rr, oX8 7 2 rrc (nI kr)), (tp9, oX10 tby (nI kt) tln tsp tkd ts9 tn9 tf9), (de9, oX2 bb tr9 (nI jr) dk dn dp da dq)])
set_option maxHeartbeats 4000000 in
set_option maxRecDepth 100000 in
theorem p_many (l : Launch) (G : GG) (VL : Nat → List LNT) (VC : Nat → Nat → List Int32) (DY : Nat → Int32) (h0 : Nat) (x1 : Int32) (bb : Nat) (kk : Nat) (ikp : Int32) (sg : Nat) (do9 : Nat) (ru9 : Nat) (ta9 : Nat) (tp9 : Nat) (ro9 : Nat) (ho9 : Nat) (de9 : Nat) (clk : Nat) (fi : Nat) (la : Nat) (ml : Nat) (mm : Nat) (sl : Nat) (sm : Nat) (cl : Int32) (clm : Nat) (fclm : Nat → Int32) (ffi : Nat → Int32) (fla : Nat → Int32) (fml : Nat → Int32) (fmm : Nat → Int32) (fsl : Nat → Int32) (fsm : Nat → Int32) (fc : Nat) (sh : Nat) (r1 : Int32) (rc : Int32) (rh : Int32) (ffc : Nat → Int32) (fsh : Nat → Int32) (bpersons : Nat) (bpapers : Nat) (bstamps : Nat) (bversions : Nat) (blines : Nat) (bsteps : Nat) (bsayings : Nat) (bfindings : Nat) (bwarnings : Nat) (bquestions : Nat) (td : Int32) (vd : Int32) (vl : Int32) (gp : Int32) (bversionsc : Nat) (kbversions : Nat) (fbversions : Nat → Int32) (bpersonsc : Nat) (kbpersons : Nat) (fbpersons : Nat → Int32) (bpapersc : Nat) (kbpapers : Nat) (fbpapers : Nat → Int32) (blinesc : Nat) (kblines : Nat) (fblines : Nat → Int32) (bstepsc : Nat) (kbsteps : Nat) (fbsteps : Nat → Int32) (bstampsc : Nat) (kbstamps : Nat) (fbstamps : Nat → Int32) (bfindingsc : Nat) (kbfindings : Nat) (fbfindings : Nat → Int32) (bsayingsc : Nat) (kbsayings : Nat) (fbsayings : Nat → Int32) (bwarningsc : Nat) (kbwarnings : Nat) (bquestionsc : Nat) (kbquestions : Nat) (rr : Nat) (tc : Nat) (asd : Int32) (st9 : Int32) (tol : Int32) (rrc : Nat) (kr : Nat) (tby : Nat) (kt : Nat) (tln : Nat) (tsp : Nat) (tkd : Int32) (ts9 : Int32) (tn9 : Int32) (tf9 : Int32) (tr9 : Nat) (jr : Nat) (dk : Int32) (dn : Int32) (dp : Int32) (da : Int32) (dq : Int32) (hkbversions : kbversions ≤ 8) (hkbpersons : kbpersons ≤ 10) (hkbpapers : kbpapers ≤ 12) (hkblines : kblines ≤ 72) (hkbsteps : kbsteps ≤ 960) (hkbstamps : kbstamps ≤ 24) (hkbfindings : kbfindings ≤ 12) (hVZ : VCZ fbversions fblines fbsteps kbversions kblines kbsteps VL VC DY) (hSV : SVL fbstamps kbstamps) (hgp : GPR gp) (hSL : PSL fbpersons) (hFN : FNO fbfindings kbfindings kbpersons) (hcl : cl = 0 ∨ cl = 1) (hkbsayings : kbsayings ≤ 16) (hSP : SPI fbsayings kbsayings kbpapers) : K_p_many l G VL VC DY h0 x1 bb kk ikp sg do9 ru9 ta9 tp9 ro9 ho9 de9 clk fi la ml mm sl sm cl clm fclm ffi fla fml fmm fsl fsm fc sh r1 rc rh ffc fsh bpersons bpapers bstamps bversions blines bsteps bsayings bfindings bwarnings bquestions td vd vl gp bversionsc kbversions fbversions bpersonsc kbpersons fbpersons bpapersc kbpapers fbpapers blinesc kblines fblines bstepsc kbsteps fbsteps bstampsc kbstamps fbstamps bfindingsc kbfindings fbfindings bsayingsc kbsayings fbsayings bwarningsc kbwarnings bquestionsc kbquestions rr tc asd st9 tol rrc kr tby kt tln tsp tkd ts9 tn9 tf9 tr9 jr dk dn dp da dq := by
  refine MI.start (by decide +kernel) (Nat.le_of_ble_eq_true rfl) ?_
  intro p e s m below meth c A ls hC hK hP hD hS hA hl
  refine absQ (fun Q0 hQ0 => ?_)
  have hl : lv_has ls 2 [(0, .ref h0), (1, .int x1)] := hl
  refine Kan8 hC (fun hx hb hr hml hB hown hlocks hnm => ?_)
  refine lv_iload_n hx hb gX11_many_0.1 rfl (lv_at1 hl) ?_
  by_cases c_1_4096 : x1 = 0
  · refine lv_tableIn (tgt := 76) hx hb gX11_many_0.2.1 (by rw [c_1_4096]; decide) (by rw [c_1_4096]; decide) (by rw [c_1_4096]; rfl) (by decide) ?_
    refine lv_aload_n hx hb gX11_many_0.2.2.1 rfl (lv_at0 hl) ?_
    refine gf_X11_15 hC rfl hK hP 0 rfl rfl gX11_many_0.2.2.2.1 ?_
    refine gf_X11_87 hC rfl hK hP 13 rfl rfl gX11_many_0.2.2.2.2.1 ?_
    refine toQ hQ0 ?_
    exact RI (v := td) hC hP hD hS [0, 1, 2, 3, 4, 5, 6, 7, 8, 9, 10, 11, 12, 13, 14, 15, 16, 17, 18, 19, 20, 21, 22, 23, 24, 25, 26, 27, 28, 29, 30, 31, 32, 33, 34, 35] (cl, fclm, ffi, fla, fml, fmm, fsl, fsm, r1, rc, rh, ffc, fsh) rfl rfl (by decide) (⟨⟨td, Or.inl ⟨0, by decide, c_1_4096, rfl⟩, rfl⟩, hcl⟩) rfl gX11_many_0.2.2.2.2.2.1
  by_cases c_1_4097 : x1 = 1
  · refine lv_tableIn (tgt := 84) hx hb gX11_many_0.2.1 (by rw [c_1_4097]; decide) (by rw [c_1_4097]; decide) (by rw [c_1_4097]; rfl) (by decide) ?_
    refine lv_aload_n hx hb gX11_many_0.2.2.2.2.2.2.1 rfl (lv_at0 hl) ?_
    refine gf_X11_15 hC rfl hK hP 0 rfl rfl gX11_many_0.2.2.2.2.2.2.2.1 ?_
    refine gf_X11_107 hC rfl hK hP 13 rfl rfl gX11_many_0.2.2.2.2.2.2.2.2.1 ?_
    refine pV hC hK hl hP hD (c_T_count l G bpersons 10 2 bpersonsc kbpersons) si_X11_174 [16] sm_16 fm_16 nd_16 rfl rfl rfl rfl rfl (Nat.le_of_ble_eq_true rfl) rm_10_1_1 ⟨by first | exact Nat.le_of_ble_eq_true rfl | exact Nat.zero_le _, by first | exact Nat.le_of_ble_eq_true rfl | exact Nat.zero_le _⟩ gX11_many_0.2.2.2.2.2.2.2.2.2 (Keqr ?_)
    refine toQ hQ0 ?_
    exact RI (v := nI kbpersons) hC hP hD hS [0, 1, 2, 3, 4, 5, 6, 7, 8, 9, 10, 11, 12, 13, 14, 15, 16, 17, 18, 19, 20, 21, 22, 23, 24, 25, 26, 27, 28, 29, 30, 31, 32, 33, 34, 35] (cl, fclm, ffi, fla, fml, fmm, fsl, fsm, r1, rc, rh, ffc, fsh) rfl rfl (by decide) (⟨⟨nI kbpersons, Or.inl ⟨1, by decide, c_1_4097, rfl⟩, rfl⟩, hcl⟩) rfl gX11_many_1.1
  by_cases c_1_4100 : x1 = 2
  · refine lv_tableIn (tgt := 95) hx hb gX11_many_0.2.1 (by rw [c_1_4100]; decide) (by rw [c_1_4100]; decide) (by rw [c_1_4100]; rfl) (by decide) ?_
    refine lv_aload_n hx hb gX11_many_1.2.1 rfl (lv_at0 hl) ?_
    refine gf_X11_15 hC rfl hK hP 0 rfl rfl gX11_many_1.2.2.1 ?_
    refine gf_X11_144 hC rfl hK hP 13 rfl rfl gX11_many_1.2.2.2.1 ?_
    refine pV hC hK hl hP hD (c_T_count l G bpapers 12 6 bpapersc kbpapers) si_X11_174 [18] sm_18 fm_18 nd_18 rfl rfl rfl rfl rfl (Nat.le_of_ble_eq_true rfl) rm_10_1_1 ⟨by first | exact Nat.le_of_ble_eq_true rfl | exact Nat.zero_le _, by first | exact Nat.le_of_ble_eq_true rfl | exact Nat.zero_le _⟩ gX11_many_1.2.2.2.2.1 (Keqr ?_)
    refine toQ hQ0 ?_
    exact RI (v := nI kbpapers) hC hP hD hS [0, 1, 2, 3, 4, 5, 6, 7, 8, 9, 10, 11, 12, 13, 14, 15, 16, 17, 18, 19, 20, 21, 22, 23, 24, 25, 26, 27, 28, 29, 30, 31, 32, 33, 34, 35] (cl, fclm, ffi, fla, fml, fmm, fsl, fsm, r1, rc, rh, ffc, fsh) rfl rfl (by decide) (⟨⟨nI kbpapers, Or.inl ⟨2, by decide, c_1_4100, rfl⟩, rfl⟩, hcl⟩) rfl gX11_many_1.2.2.2.2.2.1
  by_cases c_1_4103 : x1 = 3
  · refine lv_tableIn (tgt := 106) hx hb gX11_many_0.2.1 (by rw [c_1_4103]; decide) (by rw [c_1_4103]; decide) (by rw [c_1_4103]; rfl) (by decide) ?_
    refine lv_aload_n hx hb gX11_many_1.2.2.2.2.2.2.1 rfl (lv_at0 hl) ?_
    refine gf_X11_15 hC rfl hK hP 0 rfl rfl gX11_many_1.2.2.2.2.2.2.2.1 ?_
    refine pV hC hK hl hP hD (c_inViewX l G bb bpersons bpapers bstamps bversions blines bsteps bsayings bfindings bwarnings bquestions td vd vl gp bpapersc kbpapers fbpapers (hkbpapers)) si_X11_97 [13, 18, 19] sm_13_18_19 fm_13_18_19 nd_13_18_19 rfl rfl rfl rfl rfl (Nat.le_of_ble_eq_true rfl) rm_10_3_6 ⟨by first | exact Nat.le_of_ble_eq_true rfl | exact Nat.zero_le _, by first | exact Nat.le_of_ble_eq_true rfl | exact Nat.zero_le _⟩ gX11_many_1.2.2.2.2.2.2.2.2.1 (Keqr ?_)
    refine pS hC hK hl (c_bitCountX l G (IVW fbpapers td vd vl kbpapers)) si_X11_101 rfl rfl (Nat.le_of_ble_eq_true rfl) rm_10_1_1 ⟨by first | exact Nat.le_of_ble_eq_true rfl | exact Nat.zero_le _, by first | exact Nat.le_of_ble_eq_true rfl | exact Nat.zero_le _⟩ gX11_many_1.2.2.2.2.2.2.2.2.2 (Keqr ?_)
    refine toQ hQ0 ?_
    exact RI (v := (BCN (IVW fbpapers td vd vl kbpapers))) hC hP hD hS [0, 1, 2, 3, 4, 5, 6, 7, 8, 9, 10, 11, 12, 13, 14, 15, 16, 17, 18, 19, 20, 21, 22, 23, 24, 25, 26, 27, 28, 29, 30, 31, 32, 33, 34, 35] (cl, fclm, ffi, fla, fml, fmm, fsl, fsm, r1, rc, rh, ffc, fsh) rfl rfl (by decide) (⟨⟨(BCN (IVW fbpapers td vd vl kbpapers)), Or.inl ⟨3, by decide, c_1_4103, rfl⟩, rfl⟩, hcl⟩) rfl gX11_many_2.1
  by_cases c_1_4108 : x1 = 4
  · refine lv_tableIn (tgt := 117) hx hb gX11_many_0.2.1 (by rw [c_1_4108]; decide) (by rw [c_1_4108]; decide) (by rw [c_1_4108]; rfl) (by decide) ?_
    refine lv_aload_n hx hb gX11_many_2.2.1 rfl (lv_at0 hl) ?_
    refine gf_X11_15 hC rfl hK hP 0 rfl rfl gX11_many_2.2.2.1 ?_
    refine gf_X11_157 hC rfl hK hP 13 rfl rfl gX11_many_2.2.2.2.1 ?_
    refine pV hC hK hl hP hD (c_T_count l G bstamps 24 3 bstampsc kbstamps) si_X11_174 [24] sm_24 fm_24 nd_24 rfl rfl rfl rfl rfl (Nat.le_of_ble_eq_true rfl) rm_10_1_1 ⟨by first | exact Nat.le_of_ble_eq_true rfl | exact Nat.zero_le _, by first | exact Nat.le_of_ble_eq_true rfl | exact Nat.zero_le _⟩ gX11_many_2.2.2.2.2.1 (Keqr ?_)
    refine toQ hQ0 ?_
    exact RI (v := nI kbstamps) hC hP hD hS [0, 1, 2, 3, 4, 5, 6, 7, 8, 9, 10, 11, 12, 13, 14, 15, 16, 17, 18, 19, 20, 21, 22, 23, 24, 25, 26, 27, 28, 29, 30, 31, 32, 33, 34, 35] (cl, fclm, ffi, fla, fml, fmm, fsl, fsm, r1, rc, rh, ffc, fsh) rfl rfl (by decide) (⟨⟨nI kbstamps, Or.inl ⟨4, by decide, c_1_4108, rfl⟩, rfl⟩, hcl⟩) rfl gX11_many_2.2.2.2.2.2.1
  by_cases c_1_4111 : x1 = 5
  · refine lv_tableIn (tgt := 128) hx hb gX11_many_0.2.1 (by rw [c_1_4111]; decide) (by rw [c_1_4111]; decide) (by rw [c_1_4111]; rfl) (by decide) ?_
    refine lv_aload_n hx hb gX11_many_2.2.2.2.2.2.2.1 rfl (lv_at0 hl) ?_
    refine gf_X11_15 hC rfl hK hP 0 rfl rfl gX11_many_2.2.2.2.2.2.2.2.1 ?_
    refine gf_X11_233 hC rfl hK hP 13 rfl rfl gX11_many_2.2.2.2.2.2.2.2.2.1 ?_
    refine pV hC hK hl hP hD (c_T_count l G bversions 8 3 bversionsc kbversions) si_X11_174 [14] sm_14 fm_14 nd_14 rfl rfl rfl rfl rfl (Nat.le_of_ble_eq_true rfl) rm_10_1_1 ⟨by first | exact Nat.le_of_ble_eq_true rfl | exact Nat.zero_le _, by first | exact Nat.le_of_ble_eq_true rfl | exact Nat.zero_le _⟩ gX11_many_2.2.2.2.2.2.2.2.2.2 (Keqr ?_)
    refine toQ hQ0 ?_
    exact RI (v := nI kbversions) hC hP hD hS [0, 1, 2, 3, 4, 5, 6, 7, 8, 9, 10, 11, 12, 13, 14, 15, 16, 17, 18, 19, 20, 21, 22, 23, 24, 25, 26, 27, 28, 29, 30, 31, 32, 33, 34, 35] (cl, fclm, ffi, fla, fml, fmm, fsl, fsm, r1, rc, rh, ffc, fsh) rfl rfl (by decide) (⟨⟨nI kbversions, Or.inl ⟨5, by decide, c_1_4111, rfl⟩, rfl⟩, hcl⟩) rfl gX11_many_3.1
  by_cases c_1_4114 : x1 = 6
  · refine lv_tableIn (tgt := 139) hx hb gX11_many_0.2.1 (by rw [c_1_4114]; decide) (by rw [c_1_4114]; decide) (by rw [c_1_4114]; rfl) (by decide) ?_
    refine lv_aload_n hx hb gX11_many_3.2.1 rfl (lv_at0 hl) ?_
    refine gf_X11_15 hC rfl hK hP 0 rfl rfl gX11_many_3.2.2.1 ?_
    refine gf_X11_256 hC rfl hK hP 13 rfl rfl gX11_many_3.2.2.2.1 ?_
    refine pV hC hK hl hP hD (c_T_count l G bsayings 16 8 bsayingsc kbsayings) si_X11_174 [28] sm_28 fm_28 nd_28 rfl rfl rfl rfl rfl (Nat.le_of_ble_eq_true rfl) rm_10_1_1 ⟨by first | exact Nat.le_of_ble_eq_true rfl | exact Nat.zero_le _, by first | exact Nat.le_of_ble_eq_true rfl | exact Nat.zero_le _⟩ gX11_many_3.2.2.2.2.1 (Keqr ?_)
    refine toQ hQ0 ?_
    exact RI (v := nI kbsayings) hC hP hD hS [0, 1, 2, 3, 4, 5, 6, 7, 8, 9, 10, 11, 12, 13, 14, 15, 16, 17, 18, 19, 20, 21, 22, 23, 24, 25, 26, 27, 28, 29, 30, 31, 32, 33, 34, 35] (cl, fclm, ffi, fla, fml, fmm, fsl, fsm, r1, rc, rh, ffc, fsh) rfl rfl (by decide) (⟨⟨nI kbsayings, Or.inl ⟨6, by decide, c_1_4114, rfl⟩, rfl⟩, hcl⟩) rfl gX11_many_3.2.2.2.2.2.1
  by_cases c_1_4117 : x1 = 7
  · refine lv_tableIn (tgt := 150) hx hb gX11_many_0.2.1 (by rw [c_1_4117]; decide) (by rw [c_1_4117]; decide) (by rw [c_1_4117]; rfl) (by decide) ?_
    refine lv_aload_n hx hb gX11_many_3.2.2.2.2.2.2.1 rfl (lv_at0 hl) ?_
    refine gf_X11_15 hC rfl hK hP 0 rfl rfl gX11_many_3.2.2.2.2.2.2.2.1 ?_
    refine lv_aload_n hx hb gX11_many_3.2.2.2.2.2.2.2.2.1 rfl (lv_at0 hl) ?_
    refine gf_X11_15 hC rfl hK hP 0 rfl rfl gX11_many_3.2.2.2.2.2.2.2.2.2 ?_
    refine pV hC hK hl hP hD (c_inViewX l G bb bpersons bpapers bstamps bversions blines bsteps bsayings bfindings bwarnings bquestions td vd vl gp bpapersc kbpapers fbpapers (hkbpapers)) si_X11_97 [13, 18, 19] sm_13_18_19 fm_13_18_19 nd_13_18_19 rfl rfl rfl rfl rfl (Nat.le_of_ble_eq_true rfl) rm_10_3_6 ⟨by first | exact Nat.le_of_ble_eq_true rfl | exact Nat.zero_le _, by first | exact Nat.le_of_ble_eq_true rfl | exact Nat.zero_le _⟩ gX11_many_4.1 (Keqr ?_)
    refine pV hC hK hl hP hD (c_countSayingsX l G bb bpersons bpapers bstamps bversions blines bsteps bsayings bfindings bwarnings bquestions td vd vl gp bsayingsc kbsayings fbsayings bpapersc kbpapers fbpapers (hkbsayings) (hkbpapers) (hSP)) si_X11_355 [13, 28, 29, 18, 19] sm_13_28_29_18_19 fm_13_28_29_18_19 nd_13_28_29_18_19 rfl rfl rfl rfl rfl (Nat.le_of_ble_eq_true rfl) rm_10_4_4 ⟨by first | exact Nat.le_of_ble_eq_true rfl | exact Nat.zero_le _, by first | exact Nat.le_of_ble_eq_true rfl | exact Nat.zero_le _⟩ gX11_many_4.2.1 (Keqr ?_)
    refine toQ hQ0 ?_
    exact RI (v := (CNT (CSQ fbsayings fbpapers td vd vl) kbsayings)) hC hP hD hS [0, 1, 2, 3, 4, 5, 6, 7, 8, 9, 10, 11, 12, 13, 14, 15, 16, 17, 18, 19, 20, 21, 22, 23, 24, 25, 26, 27, 28, 29, 30, 31, 32, 33, 34, 35] (cl, fclm, ffi, fla, fml, fmm, fsl, fsm, r1, rc, rh, ffc, fsh) rfl rfl (by decide) (⟨⟨(CNT (CSQ fbsayings fbpapers td vd vl) kbsayings), Or.inl ⟨7, by decide, c_1_4117, rfl⟩, rfl⟩, hcl⟩) rfl gX11_many_4.2.2.1
  by_cases c_1_4122 : x1 = 8
  · refine lv_tableIn (tgt := 165) hx hb gX11_many_0.2.1 (by rw [c_1_4122]; decide) (by rw [c_1_4122]; decide) (by rw [c_1_4122]; rfl) (by decide) ?_
    refine lv_aload_n hx hb gX11_many_4.2.2.2.1 rfl (lv_at0 hl) ?_
    refine gf_X11_15 hC rfl hK hP 0 rfl rfl gX11_many_4.2.2.2.2.1 ?_
    refine gf_X11_271 hC rfl hK hP 13 rfl rfl gX11_many_4.2.2.2.2.2.1 ?_
    refine pV hC hK hl hP hD (c_T_count l G bfindings 12 4 bfindingsc kbfindings) si_X11_174 [26] sm_26 fm_26 nd_26 rfl rfl rfl rfl rfl (Nat.le_of_ble_eq_true rfl) rm_10_1_1 ⟨by first | exact Nat.le_of_ble_eq_true rfl | exact Nat.zero_le _, by first | exact Nat.le_of_ble_eq_true rfl | exact Nat.zero_le _⟩ gX11_many_4.2.2.2.2.2.2.1 (Keqr ?_)
    refine toQ hQ0 ?_
    exact RI (v := nI kbfindings) hC hP hD hS [0, 1, 2, 3, 4, 5, 6, 7, 8, 9, 10, 11, 12, 13, 14, 15, 16, 17, 18, 19, 20, 21, 22, 23, 24, 25, 26, 27, 28, 29, 30, 31, 32, 33, 34, 35] (cl, fclm, ffi, fla, fml, fmm, fsl, fsm, r1, rc, rh, ffc, fsh) rfl rfl (by decide) (⟨⟨nI kbfindings, Or.inl ⟨8, by decide, c_1_4122, rfl⟩, rfl⟩, hcl⟩) rfl gX11_many_4.2.2.2.2.2.2.2.1
  by_cases c_1_4125 : x1 = 9
  · refine lv_tableIn (tgt := 176) hx hb gX11_many_0.2.1 (by rw [c_1_4125]; decide) (by rw [c_1_4125]; decide) (by rw [c_1_4125]; rfl) (by decide) ?_
    refine lv_aload_n hx hb gX11_many_4.2.2.2.2.2.2.2.2.1 rfl (lv_at0 hl) ?_
    refine lv_aload_n hx hb gX11_many_4.2.2.2.2.2.2.2.2.2 rfl (lv_at0 hl) ?_
    refine gf_X11_15 hC rfl hK hP 0 rfl rfl gX11_many_5.1 ?_
    refine pV hC hK hl hP hD (c_inViewX l G bb bpersons bpapers bstamps bversions blines bsteps bsayings bfindings bwarnings bquestions td vd vl gp bpapersc kbpapers fbpapers (hkbpapers)) si_X11_97 [13, 18, 19] sm_13_18_19 fm_13_18_19 nd_13_18_19 rfl rfl rfl rfl rfl (Nat.le_of_ble_eq_true rfl) rm_10_3_6 ⟨by first | exact Nat.le_of_ble_eq_true rfl | exact Nat.zero_le _, by first | exact Nat.le_of_ble_eq_true rfl | exact Nat.zero_le _⟩ gX11_many_5.2.1 (Keqr ?_)
    refine iV (wr := [(bsayings, oX8 16 8 bsayingsc (nI kbsayings)), (bsayingsc, iA G 128 fbsayings), (bwarnings, oX8 16 3 bwarningsc (nI kbwarnings)), (bquestions, oX8 7 2 bquestionsc (nI kbquestions)), (ro9, oX5 bb rr tc asd st9 tol), (rr, oX8 7 2 rrc (nI kr)), (tp9, oX10 tby (nI kt) tln tsp tkd ts9 tn9 tf9), (de9, oX2 bb tr9 (nI jr) dk dn dp da dq)]) hC hK hl hP hD hS hA (c_countStandingX l G VL VC DY h0 (IVW fbpapers td vd vl kbpapers) bb kk ikp sg do9 ru9 ta9 tp9 ro9 ho9 de9 clk fi la ml mm sl sm cl clm fclm ffi fla fml fmm fsl fsm fc sh r1 rc rh ffc fsh bpersons bpapers bstamps bversions blines bsteps bsayings bfindings bwarnings bquestions td vd vl gp bversionsc kbversions fbversions bpersonsc kbpersons fbpersons bpapersc kbpapers fbpapers blinesc kblines fblines bstepsc kbsteps fbsteps bstampsc kbstamps fbstamps bfindingsc kbfindings fbfindings (hkbversions) (hkbpersons) (hkbpapers) (hkblines) (hkbsteps) (hkbstamps) (hkbfindings) (hVZ) (hSV) (hgp) (hSL) (hFN) (hcl)) si_X11_358 [0, 1, 2, 3, 4, 5, 6, 7, 8, 9, 10, 11, 12, 13, 14, 15, 16, 17, 18, 19, 20, 21, 22, 23, 24, 25, 26, 27] [28, 29, 30, 31, 32, 33, 34, 35] sm_0_1_2_3_4_5_6_7_8_9_10_11_12_13_14_15_16_17_18_19_20_21_22_23_24_25_26_27 fm_0_1_2_3_4_5_6_7_8_9_10_11_12_13_14_15_16_17_18_19_20_21_22_23_24_25_26_27 nd_0_1_2_3_4_5_6_7_8_9_10_11_12_13_14_15_16_17_18_19_20_21_22_23_24_25_26_27 sm_28_29_30_31_32_33_34_35 nd_28_29_30_31_32_33_34_35 dj_0_1_2_3_4_5_6_7_8_9_10_11_12_13_14_15_16_17_18_19_20_21_22_23_24_25_26_27__28_29_30_31_32_33_34_35 rfl rfl rfl rfl rfl (Nat.le_of_ble_eq_true rfl) rm_10_8_4 ⟨Nat.le_of_ble_eq_true rfl, Nat.le_of_ble_eq_true rfl⟩ gX11_many_5.2.2.1 (fun r4128 => Ktu13 fun cl14130 gclm4131 gfi4132 gla4133 gml4134 gmm4135 gsl4136 gsm4137 r114138 rc14139 rh14140 gfc4141 gsh4142 => ?_)
    intro H locs hr4128 hP hD hS
    try dsimp only at hr4128
    refine Kpdr (ws := [(bsayings, oX8 16 8 bsayingsc (nI kbsayings)), (bsayingsc, iA G 128 fbsayings), (bwarnings, oX8 16 3 bwarningsc (nI kbwarnings)), (bquestions, oX8 7 2 bquestionsc (nI kbquestions)), (ro9, oX5 bb rr tc asd st9 tol), (rr, oX8 7 2 rrc (nI kr)), (tp9, oX10 tby (nI kt) tln tsp tkd ts9 tn9 tf9), (de9, oX2 bb tr9 (nI jr) dk dn dp da dq), (h0, oX11 bb kk ikp sg do9 ru9 ta9 tp9 ro9 ho9 de9), (sg, oX7 bb clk fi la ml mm sl sm cl14130), (clk, oX1 clm), (clm, iA G 36 gclm4131), (fi, iA G 12 gfi4132), (la, iA G 12 gla4133), (ml, iA G 12 gml4134), (mm, iA G 12 gmm4135), (sl, iA G 12 gsl4136), (sm, iA G 12 gsm4137), (ru9, oX6 bb sg fc sh r114138 rc14139 rh14140), (fc, iA G 5 gfc4141), (sh, iA G 8 gsh4142), (bb, oX0 bpersons bpapers bstamps bversions blines bsteps bsayings bfindings bwarnings bquestions td vd vl gp), (bversions, oX8 8 3 bversionsc (nI kbversions)), (bversionsc, iA G 24 fbversions), (bpersons, oX8 10 2 bpersonsc (nI kbpersons)), (bpersonsc, iA G 20 fbpersons), (bpapers, oX8 12 6 bpapersc (nI kbpapers)), (bpapersc, iA G 72 fbpapers), (blines, oX8 72 7 blinesc (nI kblines)), (blinesc, iA G 504 fblines), (bsteps, oX8 960 1 bstepsc (nI kbsteps)), (bstepsc, iA G 960 fbsteps), (bstamps, oX8 24 3 bstampsc (nI kbstamps)), (bstampsc, iA G 72 fbstamps), (bfindings, oX8 12 4 bfindingsc (nI kbfindings)), (bfindingsc, iA G 48 fbfindings)]) hP hD (fun hP hD => ?_)
    obtain ⟨hr4128, w4143⟩ := hr4128
    obtain rfl := hr4128
    refine toQ hQ0 ?_
    exact RI (v := (CNT (STD (KST fbstamps (VPP (IVW fbpapers td vd vl kbpapers)) gp.toInt kbstamps) fbstamps (VPP (IVW fbpapers td vd vl kbpapers)) fbpapers fbpersons kbstamps kbpapers (fun e9 => LVF (LNF (RLO DY (DAYV td vd) kbversions) VL) (TRF (RLO DY (DAYV td vd) kbversions) VC (FAX fbpersons fbpapers (VPP (IVW fbpapers td vd vl kbpapers)) kbpapers e9))) (LVN (RLO DY (DAYV td vd) kbversions) VL) fbfindings) kbfindings)) hC hP hD hS [8, 9, 10, 11, 12, 13, 14, 15, 16, 17, 18, 19, 20, 21, 22, 23, 24, 25, 26, 27, 28, 29, 30, 31, 32, 33, 34, 35, 0, 1, 2, 3, 4, 5, 6, 7] (cl14130, gclm4131, gfi4132, gla4133, gml4134, gmm4135, gsl4136, gsm4137, r114138, rc14139, rh14140, gfc4141, gsh4142) rfl rfl (by decide) (⟨⟨(CNT (STD (KST fbstamps (VPP (IVW fbpapers td vd vl kbpapers)) gp.toInt kbstamps) fbstamps (VPP (IVW fbpapers td vd vl kbpapers)) fbpapers fbpersons kbstamps kbpapers (fun e9 => LVF (LNF (RLO DY (DAYV td vd) kbversions) VL) (TRF (RLO DY (DAYV td vd) kbversions) VC (FAX fbpersons fbpapers (VPP (IVW fbpapers td vd vl kbpapers)) kbpapers e9))) (LVN (RLO DY (DAYV td vd) kbversions) VL) fbfindings) kbfindings), Or.inl ⟨9, by decide, c_1_4125, rfl⟩, rfl⟩, w4143⟩) rfl gX11_many_5.2.2.2.1
  by_cases c_1_4145 : x1 = 10
  · refine lv_tableIn (tgt := 188) hx hb gX11_many_0.2.1 (by rw [c_1_4145]; decide) (by rw [c_1_4145]; decide) (by rw [c_1_4145]; rfl) (by decide) ?_
    refine lv_aload_n hx hb gX11_many_5.2.2.2.2.1 rfl (lv_at0 hl) ?_
    refine gf_X11_15 hC rfl hK hP 0 rfl rfl gX11_many_5.2.2.2.2.2.1 ?_
    refine gf_X11_283 hC rfl hK hP 13 rfl rfl gX11_many_5.2.2.2.2.2.2.1 ?_
    refine pV hC hK hl hP hD (c_T_count l G bwarnings 16 3 bwarningsc kbwarnings) si_X11_174 [30] sm_30 fm_30 nd_30 rfl rfl rfl rfl rfl (Nat.le_of_ble_eq_true rfl) rm_10_1_1 ⟨by first | exact Nat.le_of_ble_eq_true rfl | exact Nat.zero_le _, by first | exact Nat.le_of_ble_eq_true rfl | exact Nat.zero_le _⟩ gX11_many_5.2.2.2.2.2.2.2.1 (Keqr ?_)
    refine toQ hQ0 ?_
    exact RI (v := nI kbwarnings) hC hP hD hS [0, 1, 2, 3, 4, 5, 6, 7, 8, 9, 10, 11, 12, 13, 14, 15, 16, 17, 18, 19, 20, 21, 22, 23, 24, 25, 26, 27, 28, 29, 30, 31, 32, 33, 34, 35] (cl, fclm, ffi, fla, fml, fmm, fsl, fsm, r1, rc, rh, ffc, fsh) rfl rfl (by decide) (⟨⟨nI kbwarnings, Or.inl ⟨10, by decide, c_1_4145, rfl⟩, rfl⟩, hcl⟩) rfl gX11_many_5.2.2.2.2.2.2.2.2.1
  by_cases c_1_4148 : x1 = 11
  · refine lv_tableIn (tgt := 199) hx hb gX11_many_0.2.1 (by rw [c_1_4148]; decide) (by rw [c_1_4148]; decide) (by rw [c_1_4148]; rfl) (by decide) ?_
    refine lv_aload_n hx hb gX11_many_5.2.2.2.2.2.2.2.2.2 rfl (lv_at0 hl) ?_
    refine gf_X11_15 hC rfl hK hP 0 rfl rfl gX11_many_6.1 ?_
    refine gf_X11_286 hC rfl hK hP 13 rfl rfl gX11_many_6.2.1 ?_
    refine pV hC hK hl hP hD (c_T_count l G bquestions 7 2 bquestionsc kbquestions) si_X11_174 [31] sm_31 fm_31 nd_31 rfl rfl rfl rfl rfl (Nat.le_of_ble_eq_true rfl) rm_10_1_1 ⟨by first | exact Nat.le_of_ble_eq_true rfl | exact Nat.zero_le _, by first | exact Nat.le_of_ble_eq_true rfl | exact Nat.zero_le _⟩ gX11_many_6.2.2.1 (Keqr ?_)
    refine toQ hQ0 ?_
    exact RI (v := nI kbquestions) hC hP hD hS [0, 1, 2, 3, 4, 5, 6, 7, 8, 9, 10, 11, 12, 13, 14, 15, 16, 17, 18, 19, 20, 21, 22, 23, 24, 25, 26, 27, 28, 29, 30, 31, 32, 33, 34, 35] (cl, fclm, ffi, fla, fml, fmm, fsl, fsm, r1, rc, rh, ffc, fsh) rfl rfl (by decide) (⟨⟨nI kbquestions, Or.inl ⟨11, by decide, c_1_4148, rfl⟩, rfl⟩, hcl⟩) rfl gX11_many_6.2.2.2.1
  by_cases c_1_4151 : x1 = 12
  · refine lv_tableIn (tgt := 210) hx hb gX11_many_0.2.1 (by rw [c_1_4151]; decide) (by rw [c_1_4151]; decide) (by rw [c_1_4151]; rfl) (by decide) ?_
    refine lv_aload_n hx hb gX11_many_6.2.2.2.2.1 rfl (lv_at0 hl) ?_
    refine gf_X11_65 hC rfl hK hP 0 rfl rfl gX11_many_6.2.2.2.2.2.1 ?_
    refine gf_X11_292 hC rfl hK hP 32 rfl rfl gX11_many_6.2.2.2.2.2.2.1 ?_
    refine pV hC hK hl hP hD (c_T_count l G rr 7 2 rrc kr) si_X11_174 [33] sm_33 fm_33 nd_33 rfl rfl rfl rfl rfl (Nat.le_of_ble_eq_true rfl) rm_10_1_1 ⟨by first | exact Nat.le_of_ble_eq_true rfl | exact Nat.zero_le _, by first | exact Nat.le_of_ble_eq_true rfl | exact Nat.zero_le _⟩ gX11_many_6.2.2.2.2.2.2.2.1 (Keqr ?_)
    refine toQ hQ0 ?_
    exact RI (v := nI kr) hC hP hD hS [0, 1, 2, 3, 4, 5, 6, 7, 8, 9, 10, 11, 12, 13, 14, 15, 16, 17, 18, 19, 20, 21, 22, 23, 24, 25, 26, 27, 28, 29, 30, 31, 32, 33, 34, 35] (cl, fclm, ffi, fla, fml, fmm, fsl, fsm, r1, rc, rh, ffc, fsh) rfl rfl (by decide) (⟨⟨nI kr, Or.inl ⟨12, by decide, c_1_4151, rfl⟩, rfl⟩, hcl⟩) rfl gX11_many_6.2.2.2.2.2.2.2.2.1
  by_cases c_1_4154 : x1 = 13
  · refine lv_tableIn (tgt := 221) hx hb gX11_many_0.2.1 (by rw [c_1_4154]; decide) (by rw [c_1_4154]; decide) (by rw [c_1_4154]; rfl) (by decide) ?_
    refine lv_aload_n hx hb gX11_many_6.2.2.2.2.2.2.2.2.2 rfl (lv_at0 hl) ?_
    refine gf_X11_58 hC rfl hK hP 0 rfl rfl gX11_many_7.1 ?_
    refine pV hC hK hl hP hD (c_tcount l G tp9 tby kt tln tsp tkd ts9 tn9 tf9) si_X11_224 [34] sm_34 fm_34 nd_34 rfl rfl rfl rfl rfl (Nat.le_of_ble_eq_true rfl) rm_10_1_1 ⟨by first | exact Nat.le_of_ble_eq_true rfl | exact Nat.zero_le _, by first | exact Nat.le_of_ble_eq_true rfl | exact Nat.zero_le _⟩ gX11_many_7.2.1 (Keqr ?_)
    refine toQ hQ0 ?_
    exact RI (v := nI kt) hC hP hD hS [0, 1, 2, 3, 4, 5, 6, 7, 8, 9, 10, 11, 12, 13, 14, 15, 16, 17, 18, 19, 20, 21, 22, 23, 24, 25, 26, 27, 28, 29, 30, 31, 32, 33, 34, 35] (cl, fclm, ffi, fla, fml, fmm, fsl, fsm, r1, rc, rh, ffc, fsh) rfl rfl (by decide) (⟨⟨nI kt, Or.inl ⟨13, by decide, c_1_4154, rfl⟩, rfl⟩, hcl⟩) rfl gX11_many_7.2.2.1
  by_cases c_1_4157 : x1 = 14
  · refine lv_tableIn (tgt := 229) hx hb gX11_many_0.2.1 (by rw [c_1_4157]; decide) (by rw [c_1_4157]; decide) (by rw [c_1_4157]; rfl) (by decide) ?_
    refine lv_aload_n hx hb gX11_many_7.2.2.2.1 rfl (lv_at0 hl) ?_
    refine gf_X11_79 hC rfl hK hP 0 rfl rfl gX11_many_7.2.2.2.2.1 ?_
    refine pV hC hK hl hP hD (c_ran l G de9 bb tr9 jr dk dn dp da dq) si_X11_349 [35] sm_35 fm_35 nd_35 rfl rfl rfl rfl rfl (Nat.le_of_ble_eq_true rfl) rm_10_1_1 ⟨by first | exact Nat.le_of_ble_eq_true rfl | exact Nat.zero_le _, by first | exact Nat.le_of_ble_eq_true rfl | exact Nat.zero_le _⟩ gX11_many_7.2.2.2.2.2.1 (Keqr ?_)
    refine toQ hQ0 ?_
    exact RI (v := nI jr) hC hP hD hS [0, 1, 2, 3, 4, 5, 6, 7, 8, 9, 10, 11, 12, 13, 14, 15, 16, 17, 18, 19, 20, 21, 22, 23, 24, 25, 26, 27, 28, 29, 30, 31, 32, 33, 34, 35] (cl, fclm, ffi, fla, fml, fmm, fsl, fsm, r1, rc, rh, ffc, fsh) rfl rfl (by decide) (⟨⟨nI jr, Or.inl ⟨14, by decide, c_1_4157, rfl⟩, rfl⟩, hcl⟩) rfl gX11_many_7.2.2.2.2.2.2.1
  refine lv_tableOut (tgt := 237) hx hb gX11_many_0.2.1 (by have q9 := sw_0_14 (x := x1); simp only [c_1_4096, c_1_4097, c_1_4100, c_1_4103, c_1_4108, c_1_4111, c_1_4114, c_1_4117, c_1_4122, c_1_4125, c_1_4145, c_1_4148, c_1_4151, c_1_4154, c_1_4157, not_false_eq_true, true_implies] at q9; exact q9) (by decide) ?_
  refine lv_iconst (v := (-1)) hx hb gX11_many_7.2.2.2.2.2.2.2.1 (by decide) ?_
  refine toQ hQ0 ?_
  exact RI (v := (-1)) hC hP hD hS [0, 1, 2, 3, 4, 5, 6, 7, 8, 9, 10, 11, 12, 13, 14, 15, 16, 17, 18, 19, 20, 21, 22, 23, 24, 25, 26, 27, 28, 29, 30, 31, 32, 33, 34, 35] (cl, fclm, ffi, fla, fml, fmm, fsl, fsm, r1, rc, rh, ffc, fsh) rfl rfl (by decide) (⟨⟨(-1), Or.inr ⟨MNY.out c_1_4096 c_1_4097 c_1_4100 c_1_4103 c_1_4108 c_1_4111 c_1_4114 c_1_4117 c_1_4122 c_1_4125 c_1_4145 c_1_4148 c_1_4151 c_1_4154 c_1_4157, rfl⟩, rfl⟩, hcl⟩) rfl gX11_many_7.2.2.2.2.2.2.2.2
