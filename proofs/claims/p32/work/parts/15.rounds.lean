section WR
variable {p : Program} {l : Launch} {e : Env} {R : Room} {s : State} {m : MethodId} {args : Array Value} {below : List Frame} {meth : Method} {c : Code} {H : Heap} {locs : List Loc} {cells slots : Nat} {Q : State → Prop}
variable {pc : Nat} {ls : Array Slot} {rest : List Value} {G : GG} {ws : va_W} {A : Nat → Prop} {y0 : MethodName} {b0 : ByteArray} {mL0 : Nat} {rt0 : Option FieldType} {a : Nat} {H0 : Heap}
end WR
theorem nI_zr {k : Nat} (hk : k < 2 ^ 31) (h : nI k = 0) : k = 0 := (nI_eq (b := 0) hk (by decide)).mp h
theorem st_hasA : ∀ o : Fin 128, ∀ q : Fin 7, ((nI o.1 >>> (nI q.1 &&& 31)) &&& 1 = 1) ↔ o.1.testBit q.1 = true := by decide +kernel
theorem st_has {o q : Nat} (ho : o < 128) (hq : q < 7) : ((nI o >>> (nI q &&& 31)) &&& 1 = 1) ↔ o.testBit q = true := st_hasA ⟨o, ho⟩ ⟨q, hq⟩
theorem HB.tb {o q : Nat} (ho : o < 128) (hq : q < 7) : HB (nI o) (nI q) ↔ o.testBit q = true := ⟨fun h => (st_has ho hq).mp h.2.2, fun h => HB.mk (by omega) ((st_has ho hq).mpr h)⟩
theorem st_orA : ∀ o : Fin 128, ∀ q : Fin 7, nI o.1 ||| 1 <<< (nI q.1 &&& 31) = nI (o.1 ||| 2 ^ q.1) ∧ o.1 ||| 2 ^ q.1 < 128 ∧ (o.1.testBit q.1 = false → o.1 < o.1 ||| 2 ^ q.1) := by decide +kernel
theorem st_or {o q : Nat} (ho : o < 128) (hq : q < 7) : nI o ||| 1 <<< (nI q &&& 31) = nI (o ||| 2 ^ q) ∧ o ||| 2 ^ q < 128 ∧ (o.testBit q = false → o < o ||| 2 ^ q) := st_orA ⟨o, ho⟩ ⟨q, hq⟩
theorem st_and2 (a b : Nat) : nI a &&& nI b = nI (a &&& b) := by
  apply Int32.toBitVec_inj.1
  show BitVec.ofNat 32 a &&& BitVec.ofNat 32 b = BitVec.ofNat 32 (a &&& b)
  apply BitVec.eq_of_getLsbD_eq
  intro i hi
  simp [hi]
theorem st_xor2 (a b : Nat) : nI a ^^^ nI b = nI (a ^^^ b) := by
  apply Int32.toBitVec_inj.1
  show BitVec.ofNat 32 a ^^^ BitVec.ofNat 32 b = BitVec.ofNat 32 (a ^^^ b)
  apply BitVec.eq_of_getLsbD_eq
  intro i hi
  simp [hi]
theorem st_nat (x : Int32) : ∃ n : Nat, x = nI n := ⟨x.toBitVec.toNat, Int32.toBitVec_inj.mp (by show _ = BitVec.ofNat 32 _; simp)⟩
theorem st_andle (t : Nat) (y : Int32) : ∃ j, j ≤ t ∧ nI t &&& y = nI j := by
  obtain ⟨k, rfl⟩ := st_nat y
  exact ⟨t &&& k, Nat.and_le_left, st_and2 t k⟩
theorem st_127A : ∀ j : Fin 128, nI j.1 &&& 127 = nI j.1 := by decide +kernel
theorem st_127 {j : Nat} (h : j < 128) : nI j &&& 127 = nI j := st_127A ⟨j, h⟩
theorem Wi_in {j : Nat} (h : j < 128) : Wi (nI j) 0 127 := by
  refine ⟨nI_nn (by omega), fun h9 => ?_⟩
  have h8 := (nI_ltI (a := 127) (b := j) (by decide) (by omega)).mp h9
  omega
/-- what of a set isn't in another -/
def SMI (a o : Nat) : Nat := a &&& (o ^^^ 4294967295)
theorem SMI.eq {a o : Nat} : nI a &&& (nI o ^^^ (-1)) = nI (SMI a o) := by
  rw [show (-1 : Int32) = nI 4294967295 from by decide, st_xor2, st_and2]
  rfl
theorem SMI.lt {a o : Nat} (ha : a < 128) : SMI a o < 128 := Nat.lt_of_le_of_lt Nat.and_le_left ha
theorem st_m1 : ∀ q : Fin 7, (4294967295 : Nat).testBit q.1 = true := by decide +kernel
theorem SMI.bit {a o q : Nat} (hq : q < 7) : (SMI a o).testBit q = (a.testBit q && !o.testBit q) := by
  have e : (4294967295 : Nat).testBit q = true := st_m1 ⟨q, hq⟩
  unfold SMI
  rw [Nat.testBit_and, Nat.testBit_xor, e]
  cases a.testBit q <;> cases o.testBit q <;> rfl
theorem st_ext {a b : Nat} (ha : a < 128) (hb : b < 128) (h : ∀ q, q < 7 → a.testBit q = b.testBit q) : a = b := by
  refine Nat.eq_of_testBit_eq (fun i => ?_)
  by_cases c : i < 7
  · exact h i c
  · have h7 : 2 ^ 7 ≤ 2 ^ i := Nat.pow_le_pow_right (by decide) (by omega)
    rw [Nat.testBit_lt_two_pow (Nat.lt_of_lt_of_le (show a < 2 ^ 7 from ha) h7), Nat.testBit_lt_two_pow (Nat.lt_of_lt_of_le (show b < 2 ^ 7 from hb) h7)]
/-- a set within another -/
def SUB (o a : Nat) : Prop := ∀ q, q < 7 → o.testBit q = true → a.testBit q = true
/-- of the one, not of the other -/
def CND (a o q : Nat) : Prop := a.testBit q = true ∧ o.testBit q = false
theorem SMI.cnd {a o q : Nat} (hq : q < 7) : (SMI a o).testBit q = true ↔ CND a o q := by
  rw [SMI.bit hq]
  unfold CND
  cases a.testBit q <;> cases o.testBit q <;> simp
theorem SUB.ofz {o a : Nat} (h : SMI o a = 0) : SUB o a := fun q hq hb => by
  have e := SMI.bit (a := o) (o := a) hq
  rw [h, Nat.zero_testBit, hb] at e
  cases c : a.testBit q with
  | true => rfl
  | false => rw [c] at e; exact absurd e (by decide)
theorem SUB.z {o a : Nat} (ho : o < 128) (h : SUB o a) : SMI o a = 0 := st_ext (SMI.lt ho) (by decide) (fun q hq => by
  rw [SMI.bit hq, Nat.zero_testBit]
  cases c : o.testBit q with
  | false => rfl
  | true => rw [h q hq c]; rfl)
theorem SUB.zero {a : Nat} : SUB 0 a := fun q _ hb => by rw [Nat.zero_testBit] at hb; exact absurd hb (by decide)
theorem SUB.le {o a : Nat} (ho : o < 128) (h : SUB o a) : o ≤ a := by
  have e : o &&& a = o := st_ext (Nat.lt_of_le_of_lt Nat.and_le_left ho) ho (fun q hq => by
    rw [Nat.testBit_and]
    cases c : o.testBit q with
    | false => rfl
    | true => rw [h q hq c]; rfl)
  have h2 : o &&& a ≤ a := Nat.and_le_right
  rw [e] at h2
  exact h2
theorem SUB.cand {o a : Nat} (ho : o < 128) (ha : a < 128) (h : SUB o a) (hne : ¬ o = a) : ∃ q, q < 7 ∧ CND a o q := by
  refine Classical.byContradiction (fun hn => hne (st_ext ho ha (fun q hq => ?_)))
  cases c : o.testBit q with
  | true => exact (h q hq c).symm
  | false =>
    cases d : a.testBit q with
    | false => rfl
    | true => exact absurd ⟨q, hq, d, c⟩ hn
theorem or_bit {o q r : Nat} : (o ||| 2 ^ q).testBit r = (o.testBit r || decide (q = r)) := by rw [Nat.testBit_or, Nat.testBit_two_pow]
theorem SUB.or {o a q : Nat} (h : SUB o a) (hq : a.testBit q = true) : SUB (o ||| 2 ^ q) a := fun r hr hb => by
  rw [or_bit] at hb
  cases c : o.testBit r with
  | true => exact h r hr c
  | false =>
    have e : q = r := of_decide_eq_true (by rw [c, Bool.false_or] at hb; exact hb)
    rw [← e]
    exact hq
theorem i_or_rc (a b c : Int32) : a ||| b ||| c = a ||| c ||| b := Int32.toBitVec_inj.mp (BitVec.eq_of_getLsbD_eq (fun i hi => by
  simp only [Int32.toBitVec_or, BitVec.getLsbD_or]
  cases a.toBitVec.getLsbD i <;> cases b.toBitVec.getLsbD i <;> cases c.toBitVec.getLsbD i <;> rfl))
/-- the days of a question, of a set's; the things that a set closes -/
def DYQ (f : Nat → Int32) (q : Nat) : Nat := (f (q * 2 + 0)).toNatClampNeg
def LNGQ (f : Nat → Int32) (o : Nat) : Nat → Nat
  | 0 => 0
  | n + 1 => LNGQ f o n + (if o.testBit n = true then DYQ f n else 0)
def CLQ (f : Nat → Int32) (o : Nat) : Nat → Int32
  | 0 => 0
  | n + 1 => if o.testBit n = true then CLQ f o n ||| f (n * 2 + 1) else CLQ f o n
def QAK (f : Nat → Int32) (a : Nat) : Prop := ∀ q, q < 7 → a.testBit q = true → (∃ d, d ≤ 9 ∧ f (q * 2 + 0) = nI d) ∧ ∃ t, t ≤ 255 ∧ f (q * 2 + 1) = nI t
def HQA (a k : Nat) : Prop := ∀ q, q < 7 → a.testBit q = true → q < k
theorem QAK.of {f : Nat → Int32} {a k : Nat} (h : QOK f k) (hq : HQA a k) : QAK f a := fun q h7 hb => h q (hq q h7 hb)
theorem HQA.of {j k : Nat} (h : j < 2 ^ k) : HQA j k := fun q _ hb => Classical.byContradiction fun hn => by
  rw [Nat.testBit_lt_two_pow (Nat.lt_of_lt_of_le h (Nat.pow_le_pow_right (by decide) (by omega)))] at hb
  exact absurd hb (by decide)
theorem st_shA : ∀ k : Fin 8, (1 : Int32) <<< (nI k.1 &&& 31) = nI (2 ^ k.1) := by decide +kernel
theorem HA.nat {k : Nat} {x : Int32} (hk : k ≤ 7) (h : HA k x) : ∃ j, (j < 128 ∧ j < 2 ^ k) ∧ x = nI j := by
  obtain ⟨j, hj, rfl⟩ := nI_of h.1
  have h2 := h.2
  have e : (1 : Int32) <<< (nI k &&& 31) = nI (2 ^ k) := st_shA ⟨k, by omega⟩
  have h7 : 2 ^ k ≤ 2 ^ 7 := Nat.pow_le_pow_right (by decide) hk
  have e7 : (2 : Nat) ^ 7 = 128 := by decide
  rw [e, nI_ltI hj (by omega)] at h2
  exact ⟨j, ⟨by omega, h2⟩, rfl⟩
theorem QAK.day {f : Nat → Int32} {a q : Nat} (h : QAK f a) (hq : q < 7) (hb : a.testBit q = true) : f (q * 2 + 0) = nI (DYQ f q) ∧ DYQ f q ≤ 9 := by
  obtain ⟨d, hd, e⟩ := (h q hq hb).1
  have e2 : DYQ f q = d := by
    unfold DYQ
    rw [e]
    exact nI_clamp (by omega)
  rw [e2]
  exact ⟨e, hd⟩
theorem LNGQ.le {f : Nat → Int32} {o a : Nat} (h : QAK f a) (hs : SUB o a) : ∀ n, n ≤ 7 → LNGQ f o n ≤ 9 * n
  | 0, _ => Nat.le_refl _
  | n + 1, hn => by
    have h1 := LNGQ.le h hs n (by omega)
    show LNGQ f o n + (if o.testBit n = true then DYQ f n else 0) ≤ _
    by_cases c : o.testBit n = true
    · rw [if_pos c]
      have h2 := (h.day (show n < 7 by omega) (hs n (by omega) c)).2
      omega
    · rw [if_neg c]
      omega
theorem LNGQ.add {f : Nat → Int32} {o q : Nat} (h : o.testBit q = false) : ∀ n, LNGQ f (o ||| 2 ^ q) n = LNGQ f o n + (if q < n then DYQ f q else 0)
  | 0 => by rw [if_neg (Nat.not_lt_zero q)]; rfl
  | n + 1 => by
    show LNGQ f (o ||| 2 ^ q) n + (if (o ||| 2 ^ q).testBit n = true then DYQ f n else 0) = LNGQ f o n + (if o.testBit n = true then DYQ f n else 0) + _
    rw [LNGQ.add h n, or_bit]
    by_cases e : q = n
    · subst e
      rw [h, if_neg (Nat.lt_irrefl q), if_pos (show (false || decide (q = q)) = true by simp), if_neg (show ¬ ((false : Bool) = true) by decide), if_pos (Nat.lt_succ_self q)]
    · have e2 : (o.testBit n || decide (q = n)) = o.testBit n := by rw [decide_eq_false e, Bool.or_false]
      rw [e2]
      by_cases c : q < n
      · rw [if_pos c, if_pos (show q < n + 1 by omega)]
        exact Nat.add_right_comm _ _ _
      · rw [if_neg c, if_neg (show ¬ q < n + 1 by omega)]
        rfl
theorem CLQ.add {f : Nat → Int32} {o q : Nat} (h : o.testBit q = false) : ∀ n, CLQ f (o ||| 2 ^ q) n = if q < n then CLQ f o n ||| f (q * 2 + 1) else CLQ f o n
  | 0 => by rw [if_neg (Nat.not_lt_zero q)]; rfl
  | n + 1 => by
    show (if (o ||| 2 ^ q).testBit n = true then CLQ f (o ||| 2 ^ q) n ||| f (n * 2 + 1) else CLQ f (o ||| 2 ^ q) n) = if q < n + 1 then (if o.testBit n = true then CLQ f o n ||| f (n * 2 + 1) else CLQ f o n) ||| f (q * 2 + 1) else (if o.testBit n = true then CLQ f o n ||| f (n * 2 + 1) else CLQ f o n)
    rw [CLQ.add h n, or_bit]
    by_cases e : q = n
    · subst e
      rw [h, if_neg (Nat.lt_irrefl q), if_pos (show (false || decide (q = q)) = true by simp), if_pos (Nat.lt_succ_self q), if_neg (show ¬ ((false : Bool) = true) by decide)]
    · have e2 : (o.testBit n || decide (q = n)) = o.testBit n := by rw [decide_eq_false e, Bool.or_false]
      rw [e2]
      by_cases c : q < n
      · rw [if_pos c, if_pos (show q < n + 1 by omega)]
        by_cases d : o.testBit n = true
        · rw [if_pos d, if_pos d, i_or_rc]
        · rw [if_neg d, if_neg d]
      · rw [if_neg c, if_neg (show ¬ q < n + 1 by omega)]
theorem LNGQ.y {f : Nat → Int32} {o n d : Nat} {x : Int32} (h : x = nI (d + LNGQ f o n)) (hb : o.testBit n = true) : x + nI (DYQ f n) = nI (d + LNGQ f o (n + 1)) := by
  subst h
  rw [nI_add]
  show nI _ = nI (d + (LNGQ f o n + (if o.testBit n = true then DYQ f n else 0)))
  rw [if_pos hb, Nat.add_assoc]
theorem LNGQ.n {f : Nat → Int32} {o n d : Nat} {x : Int32} (h : x = nI (d + LNGQ f o n)) (hb : ¬ o.testBit n = true) : x = nI (d + LNGQ f o (n + 1)) := by
  show x = nI (d + (LNGQ f o n + (if o.testBit n = true then DYQ f n else 0)))
  rw [if_neg hb]
  exact h
theorem CLQ.y {f : Nat → Int32} {o n : Nat} {x : Int32} (h : x = CLQ f o n) (hb : o.testBit n = true) : x ||| f (n * 2 + 1) = CLQ f o (n + 1) := by
  subst h
  exact (if_pos hb).symm
theorem CLQ.n {f : Nat → Int32} {o n : Nat} {x : Int32} (h : x = CLQ f o n) (hb : ¬ o.testBit n = true) : x = CLQ f o (n + 1) := by
  subst h
  exact (if_neg hb).symm
theorem BSUM.nat (x : Int32) : ∀ n, n ≤ 16 → ∃ b, b ≤ n ∧ BSUM x n = nI b
  | 0, _ => ⟨0, Nat.le_refl _, rfl⟩
  | n + 1, hn => by
    obtain ⟨b, h1, h2⟩ := BSUM.nat x n (by omega)
    obtain ⟨j, h3, h4⟩ : ∃ j, j ≤ 1 ∧ (x >>> (nI n &&& 31)) &&& 1 = nI j := by
      obtain ⟨k, hk⟩ := st_nat (x >>> (nI n &&& 31))
      rw [hk]
      exact ⟨k &&& 1, Nat.and_le_right, st_and2 k 1⟩
    refine ⟨b + j, by omega, ?_⟩
    show BSUM x n + ((x >>> (nI n &&& 31)) &&& 1) = nI (b + j)
    rw [h2, h4, nI_add]
/-- how many bits, as a natural number -/
def BQN (x : Int32) : Nat := (BSUM x 16).toNatClampNeg
theorem BQN.eq (x : Int32) : BSUM x 16 = nI (BQN x) ∧ BQN x ≤ 16 := by
  obtain ⟨b, h1, h2⟩ := BSUM.nat x 16 (Nat.le_refl _)
  have e : BQN x = b := by
    unfold BQN
    rw [h2]
    exact nI_clamp (by omega)
  rw [e]
  exact ⟨h2, h1⟩
/-- the things that a question closes anew -/
def CTQ (f : Nat → Int32) (o q : Nat) : Int32 := f (q * 2 + 1) &&& (CLQ f o 7 ^^^ (-1))
theorem CTQ.bc {f : Nat → Int32} {a o q : Nat} (h : QAK f a) (hq : q < 7) (hb : a.testBit q = true) : BCN (f (q * 2 + 1) &&& (CLQ f o 7 ^^^ (-1))) = nI (BQN (CTQ f o q)) := by
  obtain ⟨t, ht, e⟩ := (h q hq hb).2
  obtain ⟨j, hj, e2⟩ := st_andle t (CLQ f o 7 ^^^ (-1))
  have e3 : CTQ f o q = nI j := by
    unfold CTQ
    rw [e, e2]
  rw [e3, e, e2, bc_all (by omega)]
  exact (BQN.eq _).1
/-- what comes by a question, with what comes behind it -/
def FCN (f : Nat → Int32) (W : Nat → Nat) (o q : Nat) : Nat := (LNGQ f o 7 + DYQ f q) * BQN (CTQ f o q) + W (o ||| 2 ^ q)
def ISN (f : Nat → Int32) (W : Nat → Nat) (a o n : Nat) : Prop := (n < 7 ∧ CND a o n) ∧ (∀ q, q < 7 → CND a o q → FCN f W o n ≤ FCN f W o q) ∧ ∀ q, q < n → CND a o q → FCN f W o n < FCN f W o q
theorem ISN.uniq {f : Nat → Int32} {W : Nat → Nat} {a o n m : Nat} (h : ISN f W a o n) (k : ISN f W a o m) : n = m := by
  rcases Nat.lt_trichotomy n m with c | c | c
  · have h1 := k.2.2 n c h.1.2
    have h2 := h.2.1 m k.1.1 k.1.2
    omega
  · exact c
  · have h1 := h.2.2 m c k.1.2
    have h2 := k.2.1 n h.1.1 h.1.2
    omega
theorem argmin (F : Nat → Nat) (P : Nat → Prop) : ∀ n, (∃ q, q < n ∧ P q) → ∃ m, (m < n ∧ P m) ∧ (∀ q, q < n → P q → F m ≤ F q) ∧ ∀ q, q < m → P q → F m < F q
  | 0, h => by
    obtain ⟨q, hq, -⟩ := h
    exact absurd hq (Nat.not_lt_zero q)
  | n + 1, h => by
    by_cases c : ∃ q, q < n ∧ P q
    · obtain ⟨m, ⟨h1, h2⟩, h3, h4⟩ := argmin F P n c
      by_cases d : P n ∧ F n < F m
      · refine ⟨n, ⟨Nat.lt_succ_self n, d.1⟩, fun q hq hp => ?_, fun q hq hp => ?_⟩
        · by_cases e : q = n
          · rw [e]; exact Nat.le_refl _
          · have := h3 q (by omega) hp
            omega
        · have := h3 q hq hp
          omega
      · refine ⟨m, ⟨by omega, h2⟩, fun q hq hp => ?_, h4⟩
        by_cases e : q = n
        · rw [e] at hp ⊢
          exact Nat.not_lt.mp (fun h9 => d ⟨hp, h9⟩)
        · exact h3 q (by omega) hp
    · obtain ⟨q, hq, hp⟩ := h
      have e : q = n := Classical.byContradiction fun e => c ⟨q, by omega, hp⟩
      subst e
      refine ⟨q, ⟨hq, hp⟩, fun r hr hpr => ?_, fun r hr hpr => absurd ⟨r, hr, hpr⟩ c⟩
      by_cases e : r = q
      · rw [e]; exact Nat.le_refl _
      · exact absurd ⟨r, by omega, hpr⟩ c
/-- the least cost that is still to come, and the first question with which it comes -/
def BELL (f : Nat → Int32) (a : Nat) (W NX : Nat → Nat) : Prop := ∀ o, o < 128 → SUB o a → W o + 1152 * o ≤ 146304 ∧ (o = a → W o = 0) ∧ (¬ o = a → ISN f W a o (NX o) ∧ W o = FCN f W o (NX o))
theorem FCN.cg {f : Nat → Int32} {W V : Nat → Nat} {o q : Nat} (h : W (o ||| 2 ^ q) = V (o ||| 2 ^ q)) : FCN f W o q = FCN f V o q := by
  unfold FCN
  rw [h]
theorem FCN.le1 {f : Nat → Int32} {W : Nat → Nat} {a o q : Nat} (hq : QAK f a) (hs : SUB o a) (h7 : q < 7) (hb : a.testBit q = true) : FCN f W o q ≤ 1152 + W (o ||| 2 ^ q) := by
  unfold FCN
  have h1 := LNGQ.le hq hs 7 (Nat.le_refl _)
  have h2 := (hq.day h7 hb).2
  have h3 := (BQN.eq (CTQ f o q)).2
  have h4 : (LNGQ f o 7 + DYQ f q) * BQN (CTQ f o q) ≤ 72 * 16 := Nat.mul_le_mul (by omega) h3
  omega
theorem or_le {o q : Nat} (ho : o < 128) (hq : q < 7) (hb : o.testBit q = false) : o + 1 ≤ o ||| 2 ^ q ∧ o ||| 2 ^ q < 128 := ⟨(st_or ho hq).2.2 hb, (st_or ho hq).2.1⟩
theorem ISN.cg {f : Nat → Int32} {W V : Nat → Nat} {a o n : Nat} (ho : o < 128) (h : ∀ i, o < i → W i = V i) (k : ISN f W a o n) : ISN f V a o n ∧ FCN f W o n = FCN f V o n := by
  have e : ∀ q, q < 7 → CND a o q → FCN f W o q = FCN f V o q := fun q hq hc => FCN.cg (h _ (or_le ho hq hc.2).1)
  refine ⟨⟨k.1, fun q hq hc => ?_, fun q hq hc => ?_⟩, e n k.1.1 k.1.2⟩
  · rw [← e n k.1.1 k.1.2, ← e q hq hc]; exact k.2.1 q hq hc
  · have h7 : q < 7 := Nat.lt_trans hq k.1.1
    rw [← e n k.1.1 k.1.2, ← e q h7 hc]; exact k.2.2 q hq hc
theorem BELL.exk {f : Nat → Int32} {a : Nat} (ha : a < 128) (hq : QAK f a) : ∀ k, k ≤ 128 → ∃ W NX : Nat → Nat, ∀ o, 128 - k ≤ o → o < 128 → SUB o a → W o + 1152 * o ≤ 146304 ∧ (o = a → W o = 0) ∧ (¬ o = a → ISN f W a o (NX o) ∧ W o = FCN f W o (NX o))
  | 0, _ => ⟨fun _ => 0, fun _ => 0, fun o h1 h2 _ => by omega⟩
  | k + 1, hk => by
    obtain ⟨W, NX, h⟩ := BELL.exk ha hq k (by omega)
    have hj : ∃ w n, (SUB (127 - k) a → w + 1152 * (127 - k) ≤ 146304 ∧ (127 - k = a → w = 0) ∧ (¬ 127 - k = a → ISN f W a (127 - k) n ∧ w = FCN f W (127 - k) n)) := by
      by_cases hs : SUB (127 - k) a
      · by_cases he : 127 - k = a
        · exact ⟨0, 0, fun _ => ⟨by omega, fun _ => rfl, fun h9 => absurd he h9⟩⟩
        · obtain ⟨m, ⟨h1, h2⟩, h3, h4⟩ := argmin (FCN f W (127 - k)) (CND a (127 - k)) 7 (hs.cand (by omega) ha he)
          have h5 := or_le (o := 127 - k) (by omega) h1 h2.2
          have h6 := (h (127 - k ||| 2 ^ m) (by omega) h5.2 (hs.or h2.1)).1
          have h7 := FCN.le1 (W := W) hq hs h1 h2.1
          exact ⟨FCN f W (127 - k) m, m, fun _ => ⟨by omega, fun h9 => absurd h9 he, fun _ => ⟨⟨⟨h1, h2⟩, h3, h4⟩, rfl⟩⟩⟩
      · exact ⟨0, 0, fun h9 => absurd h9 hs⟩
    obtain ⟨w, n, hwn⟩ := hj
    have e0 : ∀ i, 127 - k < i → W i = (fun i => if i = 127 - k then w else W i) i := fun i hi => (if_neg (show ¬ i = 127 - k by omega)).symm
    refine ⟨fun i => if i = 127 - k then w else W i, fun i => if i = 127 - k then n else NX i, fun o h1 h2 h3 => ?_⟩
    by_cases c : o = 127 - k
    · subst c
      obtain ⟨g1, g2, g3⟩ := hwn h3
      dsimp only
      rw [if_pos rfl, if_pos rfl]
      refine ⟨g1, g2, fun h9 => ?_⟩
      obtain ⟨g4, g5⟩ := g3 h9
      have g6 := ISN.cg h2 e0 g4
      exact ⟨g6.1, g5.trans g6.2⟩
    · obtain ⟨g1, g2, g3⟩ := h o (by omega) h2 h3
      dsimp only
      rw [if_neg c, if_neg c]
      refine ⟨g1, g2, fun h9 => ?_⟩
      obtain ⟨g4, g5⟩ := g3 h9
      have g6 := ISN.cg h2 (fun i hi => e0 i (by omega)) g4
      exact ⟨g6.1, g5.trans g6.2⟩
theorem BELL.ex {f : Nat → Int32} {a : Nat} (ha : a < 128) (hq : QAK f a) : ∃ W NX : Nat → Nat, BELL f a W NX := by
  obtain ⟨W, NX, h⟩ := BELL.exk ha hq 128 (Nat.le_refl _)
  exact ⟨W, NX, fun o h1 h2 => h o (by omega) h1 h2⟩
theorem FCN.le {f : Nat → Int32} {W NX : Nat → Nat} {a o q : Nat} (hB : BELL f a W NX) (hq : QAK f a) (ho : o < 128) (hs : SUB o a) (h7 : q < 7) (hc : CND a o q) : FCN f W o q ≤ 147456 := by
  have h1 := FCN.le1 (W := W) hq hs h7 hc.1
  have h2 := (hB _ (or_le ho h7 hc.2).2 (hs.or hc.1)).1
  omega
/-- what the table of costs holds, from a set on -/
def TCI (W : Nat → Nat) (a j : Nat) (g : Nat → Int32) : Prop := ∀ o, j ≤ o → o < 128 → SUB o a → g o = nI (W o)
theorem TCI.zero {W : Nat → Nat} {a : Nat} {g : Nat → Int32} : TCI W a (a + 1) g := fun o h1 h2 h3 => by
  have := h3.le h2
  omega
theorem TCI.mono {W : Nat → Nat} {a j k : Nat} {g : Nat → Int32} (h : TCI W a j g) (hk : j ≤ k) : TCI W a k g := fun o h1 => h o (by omega)
theorem TCI.or {W : Nat → Nat} {a o q : Nat} {g : Nat → Int32} (h : TCI W a (o + 1) g) (ho : o < 128) (hq : q < 7) (hs : SUB o a) (hb : a.testBit q = true) (hn : o.testBit q = false) : g (o ||| 2 ^ q) = nI (W (o ||| 2 ^ q)) := h _ (or_le ho hq hn).1 (or_le ho hq hn).2 (hs.or hb)
theorem TCI.skip {W : Nat → Nat} {a j : Nat} {g : Nat → Int32} (h : TCI W a (j + 1) g) (hn : ¬ SUB j a) : TCI W a j g := fun o h1 h2 h3 => by
  by_cases c : o = j
  · rw [c] at h3
    exact absurd h3 hn
  · exact h o (by omega) h2 h3
theorem TCI.set {W : Nat → Nat} {a j : Nat} {g : Nat → Int32} {v : Int32} (h : TCI W a (j + 1) g) (hv : v = nI (W j)) : TCI W a j (upd g j v) := fun o h1 h2 h3 => by
  by_cases c : o = j
  · rw [up_eq c, hv, c]
  · rw [up_ne c]
    exact h o (by omega) h2 h3
/-- the least so far -/
def NBI (f : Nat → Int32) (W : Nat → Nat) (a o : Nat) (nx le : Int32) (k : Nat) : Prop := (nx = 0 ∧ le = 1000000 ∧ ∀ q, q < k → ¬ CND a o q) ∨ ∃ n, (n < k ∧ CND a o n) ∧ (nx = nI n ∧ le = nI (FCN f W o n)) ∧ (∀ q, q < k → CND a o q → FCN f W o n ≤ FCN f W o q) ∧ ∀ q, q < n → CND a o q → FCN f W o n < FCN f W o q
theorem NBI.zero {f : Nat → Int32} {W : Nat → Nat} {a o : Nat} : NBI f W a o 0 1000000 0 := Or.inl ⟨rfl, rfl, fun q h => absurd h (Nat.not_lt_zero q)⟩
theorem NBI.skip {f : Nat → Int32} {W : Nat → Nat} {a o k : Nat} {nx le : Int32} (h : NBI f W a o nx le k) (hn : ¬ CND a o k) : NBI f W a o nx le (k + 1) := by
  have l : ∀ q, q < k + 1 → CND a o q → q < k := fun q hq hc => Classical.byContradiction fun h9 => hn (by rw [show k = q by omega]; exact hc)
  rcases h with ⟨h1, h2, h3⟩ | ⟨n, ⟨h1, h2⟩, h3, h4, h5⟩
  · exact Or.inl ⟨h1, h2, fun q hq hc => h3 q (l q hq hc) hc⟩
  · exact Or.inr ⟨n, ⟨by omega, h2⟩, h3, fun q hq hc => h4 q (l q hq hc) hc, h5⟩
theorem NBI.keep {f : Nat → Int32} {W : Nat → Nat} {a o k : Nat} {nx le : Int32} (h : NBI f W a o nx le k) (hF : ∀ q, q < 7 → CND a o q → FCN f W o q ≤ 147456) (hk : k < 7) (hc : CND a o k) (hn : ¬ nI (FCN f W o k) < le) : NBI f W a o nx le (k + 1) := by
  have hfk := hF k hk hc
  rcases h with ⟨h1, h2, h3⟩ | ⟨n, ⟨h1, h2⟩, ⟨h3, h6⟩, h4, h5⟩
  · refine absurd ?_ hn
    rw [h2]
    exact (nI_ltI (a := FCN f W o k) (b := 1000000) (by omega) (by decide)).mpr (by omega)
  · have hfn := hF n (by omega) h2
    rw [h6, nI_ltI (by omega) (by omega)] at hn
    refine Or.inr ⟨n, ⟨by omega, h2⟩, ⟨h3, h6⟩, fun q hq hq2 => ?_, h5⟩
    by_cases c : q = k
    · rw [c]; omega
    · exact h4 q (by omega) hq2
theorem NBI.new {f : Nat → Int32} {W : Nat → Nat} {a o k : Nat} {nx le : Int32} (h : NBI f W a o nx le k) (hF : ∀ q, q < 7 → CND a o q → FCN f W o q ≤ 147456) (hk : k < 7) (hc : CND a o k) (hl : nI (FCN f W o k) < le) : NBI f W a o (nI k) (nI (FCN f W o k)) (k + 1) := by
  have hfk := hF k hk hc
  refine Or.inr ⟨k, ⟨Nat.lt_succ_self k, hc⟩, ⟨rfl, rfl⟩, fun q hq hq2 => ?_, fun q hq hq2 => ?_⟩
  · by_cases c : q = k
    · rw [c]; exact Nat.le_refl _
    · rcases h with ⟨h1, h2, h3⟩ | ⟨n, ⟨h1, h2⟩, ⟨h3, h6⟩, h4, h5⟩
      · exact absurd hq2 (h3 q (by omega))
      · have hfn := hF n (by omega) h2
        rw [h6, nI_ltI (by omega) (by omega)] at hl
        have := h4 q (by omega) hq2
        omega
  · rcases h with ⟨h1, h2, h3⟩ | ⟨n, ⟨h1, h2⟩, ⟨h3, h6⟩, h4, h5⟩
    · exact absurd hq2 (h3 q hq)
    · have hfn := hF n (by omega) h2
      rw [h6, nI_ltI (by omega) (by omega)] at hl
      have := h4 q hq hq2
      omega
theorem NBI.fin {f : Nat → Int32} {W NX : Nat → Nat} {a o : Nat} {nx le : Int32} (h : NBI f W a o nx le 7) (hB : BELL f a W NX) (ho : o < 128) (ha : a < 128) (hs : SUB o a) (hne : ¬ o = a) : nx = nI (NX o) := by
  rcases h with ⟨h1, h2, h3⟩ | ⟨n, ⟨h1, h2⟩, ⟨h3, h6⟩, h4, h5⟩
  · obtain ⟨q, hq, hc⟩ := hs.cand ho ha hne
    exact absurd hc (h3 q hq)
  · rw [h3]
    exact congrArg nI (ISN.uniq ⟨⟨h1, h2⟩, h4, h5⟩ ((hB o ho hs).2.2 hne).1)
/-- the sets of a round, one behind the other -/
def PSQ (NX : Nat → Nat) : Nat → Nat → Nat
  | 0, o => o
  | n + 1, o => PSQ NX n (o ||| 2 ^ NX o)
theorem PSQ.last {NX : Nat → Nat} : ∀ (n o : Nat), PSQ NX (n + 1) o = PSQ NX n o ||| 2 ^ NX (PSQ NX n o)
  | 0, _ => rfl
  | n + 1, o => by
    show PSQ NX (n + 1) (o ||| 2 ^ NX o) = PSQ NX n (o ||| 2 ^ NX o) ||| 2 ^ NX (PSQ NX n (o ||| 2 ^ NX o))
    exact PSQ.last n _
def SDQ (f : Nat → Int32) (NX : Nat → Nat) : Nat → Nat
  | 0 => 0
  | n + 1 => SDQ f NX n + DYQ f (NX (PSQ NX n 0))
theorem crd_or : ∀ o : Fin 128, ∀ q : Fin 7, o.1.testBit q.1 = false → BQN (nI (o.1 ||| 2 ^ q.1)) = BQN (nI o.1) + 1 := by decide +kernel
theorem crd_7 : ∀ o : Fin 128, BQN (nI o.1) = 7 → o.1 = 127 := by decide +kernel
theorem crd_le : ∀ o : Fin 128, BQN (nI o.1) ≤ 7 := by decide +kernel
/-- so far the round goes on within the questions asked -/
def PSK (a : Nat) (NX : Nat → Nat) (k : Nat) : Prop := SUB (PSQ NX k 0) a ∧ PSQ NX k 0 < 128 ∧ BQN (nI (PSQ NX k 0)) = k
theorem PSK.zero {a : Nat} {NX : Nat → Nat} : PSK a NX 0 := ⟨SUB.zero, show (0 : Nat) < 128 by decide, show BQN (nI 0) = 0 by decide +kernel⟩
theorem PSK.next {f : Nat → Int32} {a k : Nat} {W NX : Nat → Nat} (h : PSK a NX k) (hB : BELL f a W NX) (hne : ¬ PSQ NX k 0 = a) : PSK a NX (k + 1) := by
  obtain ⟨h1, h2, h3⟩ := h
  have h4 := ((hB _ h2 h1).2.2 hne).1.1
  unfold PSK
  rw [PSQ.last]
  refine ⟨h1.or h4.2.1, (st_or h2 h4.1).2.1, ?_⟩
  rw [crd_or ⟨PSQ NX k 0, h2⟩ ⟨NX (PSQ NX k 0), h4.1⟩ h4.2.2, h3]
theorem PSK.full {a : Nat} {NX : Nat → Nat} (ha : a < 128) (h : PSK a NX 7) : PSQ NX 7 0 = a := by
  obtain ⟨h1, h2, h3⟩ := h
  have e : PSQ NX 7 0 = 127 := crd_7 ⟨PSQ NX 7 0, h2⟩ h3
  have h4 := h1.le h2
  omega
/-- the rows of the first k questions of the round -/
def RWI (f : Nat → Int32) (NX : Nat → Nat) (st : Int32) (g : Nat → Int32) (k : Nat) : Prop := ∀ i, i < k → g (i * 2 + 0) = nI (NX (PSQ NX i 0)) ∧ g (i * 2 + 1) = st + nI (SDQ f NX (i + 1))
theorem RWI.zero {f : Nat → Int32} {NX : Nat → Nat} {st : Int32} {g : Nat → Int32} : RWI f NX st g 0 := fun i h => absurd h (Nat.not_lt_zero i)
theorem RWI.next {f : Nat → Int32} {NX : Nat → Nat} {st q d : Int32} {g g1 g2 : Nat → Int32} {k : Nat} (h : RWI f NX st g k) (h1 : tset 2 g (k + 1) (nI k) 0 q = g1) (h2 : tset 2 g1 (k + 1) (nI k) 1 d = g2) (hq : q = nI (NX (PSQ NX k 0))) (hd : d = st + nI (SDQ f NX (k + 1))) (hk : k < 7) : RWI f NX st g2 (k + 1) := by
  rw [ts1 (W := 2) (k := k) (c := 0) (col := 0) (by decide) (by decide) (by omega) rfl] at h1
  rw [ts1 (W := 2) (k := k) (c := 1) (col := 1) (by decide) (by decide) (by omega) rfl] at h2
  subst h1
  subst h2
  intro i hi
  by_cases c : i = k
  · rw [c, up_ne (by omega), up_eq rfl, up_eq rfl]
    exact ⟨hq, hd⟩
  · rw [up_ne (by omega), up_ne (by omega), up_ne (by omega), up_ne (by omega)]
    exact h i (by omega)
theorem SDQ.next {f : Nat → Int32} {NX : Nat → Nat} {st x : Int32} {k : Nat} (h : x = st + nI (SDQ f NX k)) : x + nI (DYQ f (NX (PSQ NX k 0))) = st + nI (SDQ f NX (k + 1)) := by
  subst h
  rw [Int32.add_assoc, nI_add]
  rfl
/-- the rows of a round -/
def ROQ (f : Nat → Int32) (a : Nat) (NX : Nat → Nat) (st : Int32) (n : Nat) (g : Nat → Int32) : Prop := n = BQN (nI a) ∧ RWI f NX st g n
/-- a round: its cost and its rows -/
def RNDQ (f : Nat → Int32) (a : Nat) (st : Int32) (n : Nat) (g : Nat → Int32) (r : Int32) : Prop := ∃ W NX : Nat → Nat, BELL f a W NX ∧ r = nI (W 0) ∧ ROQ f a NX st n g
theorem ROQ.mk {f : Nat → Int32} {a k : Nat} {NX : Nat → Nat} {st : Int32} {g : Nat → Int32} (h : PSK a NX k) (e : PSQ NX k 0 = a) (hr : RWI f NX st g k) : ROQ f a NX st k g := by
  have h3 := h.2.2
  rw [e] at h3
  exact ⟨h3.symm, hr⟩
/-- what round answers, and its rows -/
def RNC (f : Nat → Int32) (k : Nat) (td x : Int32) (m : Nat) (h : Nat → Int32) (n : Nat) (g : Nat → Int32) (r : Int32) : Prop := (¬ HA k x ∧ r = (-1) ∧ n = m ∧ g = h) ∨ (HA k x ∧ x = 0 ∧ r = (-3) ∧ n = m ∧ g = h) ∨ ∃ a, a < 128 ∧ x = nI a ∧ HA k x ∧ ¬ x = 0 ∧ RNDQ f a td n g r
section WR
variable {p : Program} {l : Launch} {e : Env} {R : Room} {s : State} {m : MethodId} {args : Array Value} {below : List Frame} {meth : Method} {c : Code} {H : Heap} {locs : List Loc} {cells slots : Nat} {Q : State → Prop}
variable {pc : Nat} {ls : Array Slot} {rest : List Value} {G : GG} {ws : va_W} {A : Nat → Prop} {y0 : MethodName} {b0 : ByteArray} {mL0 : Nat} {rt0 : Option FieldType} {a : Nat} {H0 : Heap}
theorem gX11_round_0 : (decode cX11_round 0 = .ok (.aload_n 0, 1)) ∧ (decode cX11_round 1 = .ok (.getfield 15, 3)) ∧ (decode cX11_round 4 = .ok (.getfield 286, 3)) ∧ (decode cX11_round 7 = .ok (.iload_n 1, 1)) ∧ (decode cX11_round 8 = .ok (.invokevirtual 141, 3)) ∧ (decode cX11_round 11 = .ok (.ifCond .ne 5, 3)) ∧ (decode cX11_round 14 = .ok (.iconst (-1), 1)) ∧ (decode cX11_round 15 = .ok (.ireturn, 1)) ∧ (decode cX11_round 16 = .ok (.iload_n 1, 1)) ∧ (decode cX11_round 17 = .ok (.ifCond .ne 6, 3)) := by decide +kernel
theorem gX11_round_1 : (decode cX11_round 20 = .ok (.bipush (-3), 2)) ∧ (decode cX11_round 22 = .ok (.ireturn, 1)) ∧ (decode cX11_round 23 = .ok (.aload_n 0, 1)) ∧ (decode cX11_round 24 = .ok (.getfield 65, 3)) ∧ (decode cX11_round 27 = .ok (.iload_n 1, 1)) ∧ (decode cX11_round 28 = .ok (.invokevirtual 289, 3)) ∧ (decode cX11_round 31 = .ok (.ireturn, 1)) := by decide +kernel
theorem m_285 : Cond.fieldLink RX11 65 "InquiryBench" "best" "LInquiryBench$Round;" ∈ BW := iB_BW15 _ (List.mem_of_getElem? (i := 11) rfl)
theorem gf_X11_65 (hC : CX p s m meth c y0 b0 mL0 rt0 args) (hy0 : y0.cls = RX11) (hK : KK G s) (hP : va_P G.1 vwCl ws H) (q0 : Nat) {fs : List Value} {v : Value} (he : ws[q0]? = some (a, .inr (11, fs))) (hv : fs[8]? = some v) (hdg : decode b0 pc = .ok (.getfield 65, 3)) (kk : W p l e R s m args below meth c H locs cells slots Q (F0 m (pc + 3) ls (v :: rest))) : W p l e R s m args below meth c H locs cells slots Q (F0 m pc ls (.ref a :: rest)) := by
  obtain ⟨hx, hb, hr, hml, hB, hown, hlocks, hnm⟩ := hC
  rw [hy0] at hown
  exact va_get (ci := 11) (C := RX11) (T := TX11) (N := 11) hx hb hB in_X11 hown hK.1 hP q0 he rfl 8 (by decide) (hB _ m_285) (fun _ h => h) hv hdg kk
theorem m_839 : Cond.code yX5_order cX5_order 3 (some .int) ∈ BW := iB_BW45 _ (List.mem_of_getElem? (i := 8) rfl)
theorem m_836 : Cond.methodLink RX11 289 yX5_order ∈ BW := iB_BW45 _ (List.mem_of_getElem? (i := 5) rfl)
theorem m_837 : Cond.instanceMethod yX5_order ∈ BW := iB_BW45 _ (List.mem_of_getElem? (i := 6) rfl)
theorem m_838 : Cond.selects RX5 yX5_order yX5_order ∈ BW := iB_BW45 _ (List.mem_of_getElem? (i := 7) rfl)
theorem si_X11_289 : SV RX11 RX5 289 yX5_order cX5_order 3 (some .int) 1 := ⟨⟨m_836, m_837, m_838, m_112, m_839⟩, rfl, nK_RX5.1, nK_RX5.2, pd_7⟩
end WR
theorem c_nz {a : Nat} (h : ¬ nI a = 0) : 1 ≤ a := by
  rcases Nat.eq_zero_or_pos a with e | e
  · subst e; exact absurd rfl h
  · exact e
theorem c_sb {a : Nat} (h : 1 ≤ a) : nI a - 1 = nI (a - 1) := by
  obtain ⟨b, rfl⟩ : ∃ b, a = b + 1 := ⟨a - 1, by omega⟩
  exact nI_sub1 b
section WR
variable {p : Program} {l : Launch} {e : Env} {R : Room} {s : State} {m : MethodId} {args : Array Value} {below : List Frame} {meth : Method} {c : Code} {H : Heap} {locs : List Loc} {cells slots : Nat} {Q : State → Prop}
variable {pc : Nat} {ls : Array Slot} {rest : List Value} {G : GG} {ws : va_W} {A : Nat → Prop} {y0 : MethodName} {b0 : ByteArray} {mL0 : Nat} {rt0 : Option FieldType} {a : Nat} {H0 : Heap}
theorem gX11_row_0 : (decode cX11_row 0 = .ok (.aload_n 0, 1)) ∧ (decode cX11_row 1 = .ok (.getfield 65, 3)) ∧ (decode cX11_row 4 = .ok (.getfield 292, 3)) ∧ (decode cX11_row 7 = .ok (.iload_n 1, 1)) ∧ (decode cX11_row 8 = .ok (.invokevirtual 124, 3)) ∧ (decode cX11_row 11 = .ok (.ifCond .eq 12, 3)) ∧ (decode cX11_row 14 = .ok (.iload_n 2, 1)) ∧ (decode cX11_row 15 = .ok (.iconst 0, 1)) ∧ (decode cX11_row 16 = .ok (.iconst 1, 1)) ∧ (decode cX11_row 17 = .ok (.invokestatic 83, 3)) := by decide +kernel
theorem nm_40 : Cond.fieldLinkNest RX11 292 RX5 "rows" "LInquiryBench$Table;" RX11 ∈ NestW := List.mem_of_getElem? (i := 40) rfl
theorem gf_X11_292 (hC : CX p s m meth c y0 b0 mL0 rt0 args) (hy0 : y0.cls = RX11) (hK : KK G s) (hP : va_P G.1 vwCl ws H) (q0 : Nat) {fs : List Value} {v : Value} (he : ws[q0]? = some (a, .inr (5, fs))) (hv : fs[1]? = some v) (hdg : decode b0 pc = .ok (.getfield 292, 3)) (kk : W p l e R s m args below meth c H locs cells slots Q (F0 m (pc + 3) ls (v :: rest))) : W p l e R s m args below meth c H locs cells slots Q (F0 m pc ls (.ref a :: rest)) := by
  obtain ⟨hx, hb, hr, hml, hB, hown, hlocks, hnm⟩ := hC
  rw [hy0] at hown
  exact va_getN (ci := 5) (C := RX5) (T := TX5) (N := 6) hx hb hB in_X5 hown hK.1 hP q0 he rfl 1 (by decide) (va_Nw.use rfl (hK.2.1 _ nm_40)) (fun _ h => h) hv hdg kk
theorem gX11_row_1 : (decode cX11_row 20 = .ok (.ifCond .ne 6, 3)) ∧ (decode cX11_row 23 = .ok (.bipush (-9), 2)) ∧ (decode cX11_row 25 = .ok (.ireturn, 1)) ∧ (decode cX11_row 26 = .ok (.aload_n 0, 1)) ∧ (decode cX11_row 27 = .ok (.getfield 65, 3)) ∧ (decode cX11_row 30 = .ok (.getfield 292, 3)) ∧ (decode cX11_row 33 = .ok (.iload_n 1, 1)) ∧ (decode cX11_row 34 = .ok (.iload_n 2, 1)) ∧ (decode cX11_row 35 = .ok (.invokevirtual 128, 3)) ∧ (decode cX11_row 38 = .ok (.ireturn, 1)) := by decide +kernel
theorem gX11_alterRow_0 : (decode cX11_alterRow 0 = .ok (.aload_n 0, 1)) ∧ (decode cX11_alterRow 1 = .ok (.getfield 65, 3)) ∧ (decode cX11_alterRow 4 = .ok (.getfield 292, 3)) ∧ (decode cX11_alterRow 7 = .ok (.iload_n 1, 1)) ∧ (decode cX11_alterRow 8 = .ok (.invokevirtual 124, 3)) ∧ (decode cX11_alterRow 11 = .ok (.ifCond .eq 12, 3)) ∧ (decode cX11_alterRow 14 = .ok (.iload_n 2, 1)) ∧ (decode cX11_alterRow 15 = .ok (.iconst 0, 1)) ∧ (decode cX11_alterRow 16 = .ok (.iconst 1, 1)) ∧ (decode cX11_alterRow 17 = .ok (.invokestatic 83, 3)) := by decide +kernel
theorem gX11_alterRow_1 : (decode cX11_alterRow 20 = .ok (.ifCond .ne 6, 3)) ∧ (decode cX11_alterRow 23 = .ok (.bipush (-9), 2)) ∧ (decode cX11_alterRow 25 = .ok (.ireturn, 1)) ∧ (decode cX11_alterRow 26 = .ok (.aload_n 0, 1)) ∧ (decode cX11_alterRow 27 = .ok (.getfield 65, 3)) ∧ (decode cX11_alterRow 30 = .ok (.getfield 292, 3)) ∧ (decode cX11_alterRow 33 = .ok (.iload_n 1, 1)) ∧ (decode cX11_alterRow 34 = .ok (.iload_n 2, 1)) ∧ (decode cX11_alterRow 35 = .ok (.invokevirtual 128, 3)) ∧ (decode cX11_alterRow 38 = .ok (.istore 4, 2)) := by decide +kernel
theorem gX11_alterRow_2 : (decode cX11_alterRow 40 = .ok (.aload_n 0, 1)) ∧ (decode cX11_alterRow 41 = .ok (.getfield 65, 3)) ∧ (decode cX11_alterRow 44 = .ok (.getfield 292, 3)) ∧ (decode cX11_alterRow 47 = .ok (.iload_n 1, 1)) ∧ (decode cX11_alterRow 48 = .ok (.iload_n 2, 1)) ∧ (decode cX11_alterRow 49 = .ok (.iload_n 3, 1)) ∧ (decode cX11_alterRow 50 = .ok (.invokevirtual 120, 3)) ∧ (decode cX11_alterRow 53 = .ok (.iload 4, 2)) ∧ (decode cX11_alterRow 55 = .ok (.ireturn, 1)) := by decide +kernel
theorem gX11_dropRow_0 : (decode cX11_dropRow 0 = .ok (.aload_n 0, 1)) ∧ (decode cX11_dropRow 1 = .ok (.getfield 65, 3)) ∧ (decode cX11_dropRow 4 = .ok (.getfield 292, 3)) ∧ (decode cX11_dropRow 7 = .ok (.invokevirtual 174, 3)) ∧ (decode cX11_dropRow 10 = .ok (.ifCond .ne 6, 3)) ∧ (decode cX11_dropRow 13 = .ok (.bipush (-3), 2)) ∧ (decode cX11_dropRow 15 = .ok (.ireturn, 1)) ∧ (decode cX11_dropRow 16 = .ok (.aload_n 0, 1)) ∧ (decode cX11_dropRow 17 = .ok (.getfield 65, 3)) ∧ (decode cX11_dropRow 20 = .ok (.getfield 292, 3)) := by decide +kernel
theorem gX11_dropRow_1 : (decode cX11_dropRow 23 = .ok (.aload_n 0, 1)) ∧ (decode cX11_dropRow 24 = .ok (.getfield 65, 3)) ∧ (decode cX11_dropRow 27 = .ok (.getfield 292, 3)) ∧ (decode cX11_dropRow 30 = .ok (.invokevirtual 174, 3)) ∧ (decode cX11_dropRow 33 = .ok (.iconst 1, 1)) ∧ (decode cX11_dropRow 34 = .ok (.isub, 1)) ∧ (decode cX11_dropRow 35 = .ok (.invokevirtual 295, 3)) ∧ (decode cX11_dropRow 38 = .ok (.aload_n 0, 1)) ∧ (decode cX11_dropRow 39 = .ok (.getfield 65, 3)) ∧ (decode cX11_dropRow 42 = .ok (.getfield 292, 3)) := by decide +kernel
theorem m_870 : Cond.methodLink RX11 295 yX8_cut ∈ BW := iB_BW46 _ (List.mem_of_getElem? (i := 19) rfl)
theorem si_X11_295 : SV RX11 RX8 295 yX8_cut cX8_cut 2 none 1 := ⟨⟨m_870, m_621, m_622, m_104, m_623⟩, rfl, nK_RX8.1, nK_RX8.2, pd_18⟩
theorem gX11_dropRow_2 : (decode cX11_dropRow 45 = .ok (.invokevirtual 174, 3)) ∧ (decode cX11_dropRow 48 = .ok (.ireturn, 1)) := by decide +kernel
theorem gX11_judge_0 : (decode cX11_judge 0 = .ok (.aload_n 0, 1)) ∧ (decode cX11_judge 1 = .ok (.getfield 65, 3)) ∧ (decode cX11_judge 4 = .ok (.invokevirtual 298, 3)) ∧ (decode cX11_judge 7 = .ok (.ifCond .ne 6, 3)) ∧ (decode cX11_judge 10 = .ok (.bipush (-3), 2)) ∧ (decode cX11_judge 12 = .ok (.ireturn, 1)) ∧ (decode cX11_judge 13 = .ok (.aload_n 0, 1)) ∧ (decode cX11_judge 14 = .ok (.getfield 65, 3)) ∧ (decode cX11_judge 17 = .ok (.invokevirtual 301, 3)) ∧ (decode cX11_judge 20 = .ok (.iconst 1, 1)) := by decide +kernel
theorem m_878 : Cond.code yX5_isTold cX5_isTold 1 (some .boolean) ∈ BW := iB_BW47 _ (List.mem_of_getElem? (i := 7) rfl)
theorem m_875 : Cond.methodLink RX11 298 yX5_isTold ∈ BW := iB_BW47 _ (List.mem_of_getElem? (i := 4) rfl)
theorem m_876 : Cond.instanceMethod yX5_isTold ∈ BW := iB_BW47 _ (List.mem_of_getElem? (i := 5) rfl)
theorem m_877 : Cond.selects RX5 yX5_isTold yX5_isTold ∈ BW := iB_BW47 _ (List.mem_of_getElem? (i := 6) rfl)
theorem si_X11_298 : SV RX11 RX5 298 yX5_isTold cX5_isTold 1 (some .boolean) 0 := ⟨⟨m_875, m_876, m_877, m_112, m_878⟩, rfl, nK_RX5.1, nK_RX5.2, pd_15⟩
theorem m_882 : Cond.code yX5_firstWrong cX5_firstWrong 5 (some .int) ∈ BW := iB_BW47 _ (List.mem_of_getElem? (i := 11) rfl)
theorem m_879 : Cond.methodLink RX11 301 yX5_firstWrong ∈ BW := iB_BW47 _ (List.mem_of_getElem? (i := 8) rfl)
theorem m_880 : Cond.instanceMethod yX5_firstWrong ∈ BW := iB_BW47 _ (List.mem_of_getElem? (i := 9) rfl)
theorem m_881 : Cond.selects RX5 yX5_firstWrong yX5_firstWrong ∈ BW := iB_BW47 _ (List.mem_of_getElem? (i := 10) rfl)
theorem si_X11_301 : SV RX11 RX5 301 yX5_firstWrong cX5_firstWrong 5 (some .int) 0 := ⟨⟨m_879, m_880, m_881, m_112, m_882⟩, rfl, nK_RX5.1, nK_RX5.2, pd_1⟩
theorem gX11_judge_1 : (decode cX11_judge 21 = .ok (.iadd, 1)) ∧ (decode cX11_judge 22 = .ok (.ireturn, 1)) := by decide +kernel
end WR
theorem wi_nn {x : Int32} (h : Wi x (-1) 4) (h2 : ¬ x = (-1)) : ¬ x < 0 := by
  intro h9
  apply h2
  have h1 := (Wi_iff.mp h).1
  rw [Int32.lt_iff_toInt_lt] at h9
  have e1 : (-1 : Int32).toInt = -1 := by decide
  have e0 : (0 : Int32).toInt = 0 := by decide
  apply Int32.toInt_inj.mp
  omega
section WR
variable {p : Program} {l : Launch} {e : Env} {R : Room} {s : State} {m : MethodId} {args : Array Value} {below : List Frame} {meth : Method} {c : Code} {H : Heap} {locs : List Loc} {cells slots : Nat} {Q : State → Prop}
variable {pc : Nat} {ls : Array Slot} {rest : List Value} {G : GG} {ws : va_W} {A : Nat → Prop} {y0 : MethodName} {b0 : ByteArray} {mL0 : Nat} {rt0 : Option FieldType} {a : Nat} {H0 : Heap}
end WR
def SZ (f : Nat → Int32) : Prop := ∀ i, i < 4 → ∃ k, k ≤ 40 ∧ f i = nI k
theorem SZ.set {f : Nat → Int32} {k : Nat} {v : Int32} (h : SZ f) (h0 : ¬ v < 0) (h4 : v ≤ 40) : SZ (upd f k v) := by
  intro i hi
  unfold upd
  by_cases c : i = k
  · rw [if_pos c]
    obtain ⟨j, hj, rfl⟩ := nI_of h0
    exact ⟨j, (nI_leI (b := 40) hj (by decide)).mp h4, rfl⟩
  · rw [if_neg c]; exact h i hi
theorem SZ.zero {f : Nat → Int32} {k : Nat} (h : SZ f) : SZ (upd f k 0) := h.set (by decide) (by decide)
theorem WiHc {v : Int32} {k : Nat} (hk : k < 2 ^ 31) : Wi v 0 (nI k - 1) ↔ Hs v k := by
  rw [Wi_iff]
  unfold Hs
  rw [Int32.lt_iff_toInt_lt, Int32.le_iff_toInt_le, nI_toInt hk]
  have e0 : (0 : Int32).toInt = 0 := by decide
  have e1 : (nI k - 1).toInt = (k : Int) - 1 := by
    cases k with
    | zero => decide
    | succ k => rw [nI_sub1, nI_toInt (by omega)]; omega
  rw [e0, e1]
  omega
theorem SZ.at {f : Nat → Int32} {i : Nat} {v x : Int32} (h : SZ f) (hi : i < 4) (hx : x = f i) (hv : Wi v 0 (x - 1)) : ∃ j, j < 40 ∧ v = nI j := by
  obtain ⟨k, hk, e⟩ := h i hi
  rw [hx, e, WiHc (by omega)] at hv
  obtain ⟨j, hj, e9⟩ := Hs_nat (by omega) hv
  exact ⟨j, by omega, e9⟩
def RF0 (s a : Int32) : Prop := ¬ s = (-1) ∧ s = a
def RF3 (s a : Int32) : Prop := ¬ s = (-1) ∧ ¬ s = a
/-- a value as a sheet of a sort holds it -/
noncomputable def NARW (s v : Int32) : Int32 := ifc (s = 4) (ifc (v = 0) 0 1) (ifc (s = 1) v.toInt16.toInt32 (ifc (s = 0) v.toInt8.toInt32 v))
/-- a sheet's row is wiped -/
def ZR (f g : Nat → Int32) (T n : Nat) : Prop := ∀ i, g i = if T * 40 ≤ i ∧ i < T * 40 + n then 0 else f i
theorem ZR.zero {f : Nat → Int32} {T : Nat} : ZR f f T 0 := fun i => (if_neg (by omega)).symm
theorem ZR.next {f g : Nat → Int32} {T n k : Nat} (h : ZR f g T n) (hk : k = T * 40 + n) : ZR f (upd g k 0) T (n + 1) := by
  intro i
  unfold upd
  by_cases c : i = k
  · rw [if_pos c, if_pos (by omega)]
  · rw [if_neg c, h i]
    by_cases d : T * 40 ≤ i ∧ i < T * 40 + n
    · rw [if_pos d, if_pos (by omega)]
    · rw [if_neg d, if_neg (by omega)]
def S0 (x1 x2 : Int32) : Prop := Wi x1 0 3 ∧ Wi x2 (-1) 4 ∧ x2 < 0
def S1 (x1 x2 x3 : Int32) : Prop := Wi x1 0 3 ∧ Wi x2 (-1) 4 ∧ ¬ x2 < 0 ∧ x3 ≤ 40 ∧ ¬ x3 < 0
theorem Wi_j {j N : Nat} {b : Int32} (hb : b = nI N) (hN : N < 2 ^ 31) (h : j ≤ N) : Wi (nI j) 0 b := by
  subst hb
  rw [Wi_iff, nI_toInt (by omega), nI_toInt hN]
  have e0 : (0 : Int32).toInt = 0 := by decide
  omega
section WR
variable {p : Program} {l : Launch} {e : Env} {R : Room} {s : State} {m : MethodId} {args : Array Value} {below : List Frame} {meth : Method} {c : Code} {H : Heap} {locs : List Loc} {cells slots : Nat} {Q : State → Prop}
variable {pc : Nat} {ls : Array Slot} {rest : List Value} {G : GG} {ws : va_W} {A : Nat → Prop} {y0 : MethodName} {b0 : ByteArray} {mL0 : Nat} {rt0 : Option FieldType} {a : Nat} {H0 : Heap}
end WR
/-- as it was outside a sheet's row -/
def ZQ (f g : Nat → Int32) (T : Nat) : Prop := ∀ i, ¬ (T * 40 ≤ i ∧ i < T * 40 + 40) → g i = f i
theorem ZQ.rf {f : Nat → Int32} {T : Nat} : ZQ f f T := fun _ _ => rfl
theorem ZR.zq {f g : Nat → Int32} {T : Nat} (h : ZR f g T 40) : ZQ f g T := fun i hi => (h i).trans (if_neg hi)
section WR
variable {p : Program} {l : Launch} {e : Env} {R : Room} {s : State} {m : MethodId} {args : Array Value} {below : List Frame} {meth : Method} {c : Code} {H : Heap} {locs : List Loc} {cells slots : Nat} {Q : State → Prop}
variable {pc : Nat} {ls : Array Slot} {rest : List Value} {G : GG} {ws : va_W} {A : Nat → Prop} {y0 : MethodName} {b0 : ByteArray} {mL0 : Nat} {rt0 : Option FieldType} {a : Nat} {H0 : Heap}
theorem gX11_sheet_0 : (decode cX11_sheet 0 = .ok (.iload_n 1, 1)) ∧ (decode cX11_sheet 1 = .ok (.invokestatic 164, 3)) ∧ (decode cX11_sheet 4 = .ok (.ifCond .eq 12, 3)) ∧ (decode cX11_sheet 7 = .ok (.iload_n 2, 1)) ∧ (decode cX11_sheet 8 = .ok (.iconst (-1), 1)) ∧ (decode cX11_sheet 9 = .ok (.iconst 4, 1)) ∧ (decode cX11_sheet 10 = .ok (.invokestatic 83, 3)) ∧ (decode cX11_sheet 13 = .ok (.ifCond .ne 5, 3)) ∧ (decode cX11_sheet 16 = .ok (.iconst (-1), 1)) ∧ (decode cX11_sheet 17 = .ok (.ireturn, 1)) := by decide +kernel
theorem m_405 : Cond.methodLink RX11 164 yX11_isSheet ∈ BW := iB_BW22 _ (List.mem_of_getElem? (i := 9) rfl)
theorem si_X11_164 : SS RX11 164 yX11_isSheet cX11_isSheet 1 (some .boolean) 1 := ⟨⟨m_405, m_406, m_102, m_407⟩, ⟨nK_RX11.1, nK_RX11.2, pd_5⟩⟩
theorem gX11_sheet_1 : (decode cX11_sheet 18 = .ok (.iload_n 2, 1)) ∧ (decode cX11_sheet 19 = .ok (.iconst (-1), 1)) ∧ (decode cX11_sheet 20 = .ok (.if_icmp .ne 13, 3)) ∧ (decode cX11_sheet 23 = .ok (.aload_n 0, 1)) ∧ (decode cX11_sheet 24 = .ok (.getfield 72, 3)) ∧ (decode cX11_sheet 27 = .ok (.iload_n 1, 1)) ∧ (decode cX11_sheet 28 = .ok (.invokevirtual 304, 3)) ∧ (decode cX11_sheet 31 = .ok (.iconst 1, 1)) ∧ (decode cX11_sheet 32 = .ok (.ireturn, 1)) ∧ (decode cX11_sheet 33 = .ok (.iload_n 3, 1)) := by decide +kernel
theorem gX11_sheet_2 : (decode cX11_sheet 34 = .ok (.bipush 40, 2)) ∧ (decode cX11_sheet 36 = .ok (.if_icmp .le 5, 3)) ∧ (decode cX11_sheet 39 = .ok (.iconst (-1), 1)) ∧ (decode cX11_sheet 40 = .ok (.ireturn, 1)) ∧ (decode cX11_sheet 41 = .ok (.iload_n 3, 1)) ∧ (decode cX11_sheet 42 = .ok (.ifCond .ge 6, 3)) ∧ (decode cX11_sheet 45 = .ok (.bipush (-14), 2)) ∧ (decode cX11_sheet 47 = .ok (.ireturn, 1)) ∧ (decode cX11_sheet 48 = .ok (.aload_n 0, 1)) ∧ (decode cX11_sheet 49 = .ok (.getfield 72, 3)) := by decide +kernel
theorem m_286 : Cond.fieldLink RX11 72 "InquiryBench" "host" "LInquiryBench$Host;" ∈ BW := iB_BW15 _ (List.mem_of_getElem? (i := 12) rfl)
theorem gf_X11_72 (hC : CX p s m meth c y0 b0 mL0 rt0 args) (hy0 : y0.cls = RX11) (hK : KK G s) (hP : va_P G.1 vwCl ws H) (q0 : Nat) {fs : List Value} {v : Value} (he : ws[q0]? = some (a, .inr (11, fs))) (hv : fs[9]? = some v) (hdg : decode b0 pc = .ok (.getfield 72, 3)) (kk : W p l e R s m args below meth c H locs cells slots Q (F0 m (pc + 3) ls (v :: rest))) : W p l e R s m args below meth c H locs cells slots Q (F0 m pc ls (.ref a :: rest)) := by
  obtain ⟨hx, hb, hr, hml, hB, hown, hlocks, hnm⟩ := hC
  rw [hy0] at hown
  exact va_get (ci := 11) (C := RX11) (T := TX11) (N := 11) hx hb hB in_X11 hown hK.1 hP q0 he rfl 9 (by decide) (hB _ m_286) (fun _ h => h) hv hdg kk
theorem gX11_sheet_3 : (decode cX11_sheet 52 = .ok (.iload_n 1, 1)) ∧ (decode cX11_sheet 53 = .ok (.iload_n 2, 1)) ∧ (decode cX11_sheet 54 = .ok (.iload_n 3, 1)) ∧ (decode cX11_sheet 55 = .ok (.invokevirtual 306, 3)) ∧ (decode cX11_sheet 58 = .ok (.iconst 1, 1)) ∧ (decode cX11_sheet 59 = .ok (.ireturn, 1)) := by decide +kernel
theorem m_895 : Cond.code yX4_lay cX4_lay 5 none ∈ BW := iB_BW48 _ (List.mem_of_getElem? (i := 4) rfl)
theorem m_892 : Cond.methodLink RX11 306 yX4_lay ∈ BW := iB_BW48 _ (List.mem_of_getElem? (i := 1) rfl)
theorem m_893 : Cond.instanceMethod yX4_lay ∈ BW := iB_BW48 _ (List.mem_of_getElem? (i := 2) rfl)
theorem m_894 : Cond.selects RX4 yX4_lay yX4_lay ∈ BW := iB_BW48 _ (List.mem_of_getElem? (i := 3) rfl)
theorem si_X11_306 : SV RX11 RX4 306 yX4_lay cX4_lay 5 none 3 := ⟨⟨m_892, m_893, m_894, m_113, m_895⟩, rfl, nK_RX4.1, nK_RX4.2, pd_4⟩
theorem m_891 : Cond.code yX4_clear cX4_clear 2 none ∈ BW := iB_BW48 _ (List.mem_of_getElem? (i := 0) rfl)
theorem m_888 : Cond.methodLink RX11 304 yX4_clear ∈ BW := iB_BW47 _ (List.mem_of_getElem? (i := 17) rfl)
theorem m_889 : Cond.instanceMethod yX4_clear ∈ BW := iB_BW47 _ (List.mem_of_getElem? (i := 18) rfl)
theorem m_890 : Cond.selects RX4 yX4_clear yX4_clear ∈ BW := iB_BW47 _ (List.mem_of_getElem? (i := 19) rfl)
theorem si_X11_304 : SV RX11 RX4 304 yX4_clear cX4_clear 2 none 1 := ⟨⟨m_888, m_889, m_890, m_113, m_891⟩, rfl, nK_RX4.1, nK_RX4.2, pd_18⟩
theorem gX11_put_0 : (decode cX11_put 0 = .ok (.iload_n 1, 1)) ∧ (decode cX11_put 1 = .ok (.invokestatic 164, 3)) ∧ (decode cX11_put 4 = .ok (.ifCond .ne 5, 3)) ∧ (decode cX11_put 7 = .ok (.iconst (-1), 1)) ∧ (decode cX11_put 8 = .ok (.ireturn, 1)) ∧ (decode cX11_put 9 = .ok (.aload_n 0, 1)) ∧ (decode cX11_put 10 = .ok (.getfield 72, 3)) ∧ (decode cX11_put 13 = .ok (.iload_n 1, 1)) ∧ (decode cX11_put 14 = .ok (.invokevirtual 309, 3)) ∧ (decode cX11_put 17 = .ok (.iconst (-1), 1)) := by decide +kernel
theorem m_900 : Cond.methodLink RX11 309 yX4_sort ∈ BW := iB_BW48 _ (List.mem_of_getElem? (i := 9) rfl)
theorem si_X11_309 : SV RX11 RX4 309 yX4_sort cX4_sort 2 (some .int) 1 := ⟨⟨m_900, m_413, m_414, m_113, m_415⟩, rfl, nK_RX4.1, nK_RX4.2, pd_7⟩
theorem gX11_put_1 : (decode cX11_put 18 = .ok (.if_icmp .ne 6, 3)) ∧ (decode cX11_put 21 = .ok (.bipush (-11), 2)) ∧ (decode cX11_put 23 = .ok (.ireturn, 1)) ∧ (decode cX11_put 24 = .ok (.iload_n 2, 1)) ∧ (decode cX11_put 25 = .ok (.iconst 0, 1)) ∧ (decode cX11_put 26 = .ok (.aload_n 0, 1)) ∧ (decode cX11_put 27 = .ok (.getfield 72, 3)) ∧ (decode cX11_put 30 = .ok (.iload_n 1, 1)) ∧ (decode cX11_put 31 = .ok (.invokevirtual 170, 3)) ∧ (decode cX11_put 34 = .ok (.iconst 1, 1)) := by decide +kernel
theorem m_416 : Cond.methodLink RX11 170 yX4_size ∈ BW := iB_BW23 _ (List.mem_of_getElem? (i := 0) rfl)
theorem si_X11_170 : SV RX11 RX4 170 yX4_size cX4_size 2 (some .int) 1 := ⟨⟨m_416, m_417, m_418, m_113, m_419⟩, rfl, nK_RX4.1, nK_RX4.2, pd_7⟩
theorem gX11_put_2 : (decode cX11_put 35 = .ok (.isub, 1)) ∧ (decode cX11_put 36 = .ok (.invokestatic 83, 3)) ∧ (decode cX11_put 39 = .ok (.ifCond .ne 6, 3)) ∧ (decode cX11_put 42 = .ok (.bipush (-12), 2)) ∧ (decode cX11_put 44 = .ok (.ireturn, 1)) ∧ (decode cX11_put 45 = .ok (.aload_n 0, 1)) ∧ (decode cX11_put 46 = .ok (.getfield 72, 3)) ∧ (decode cX11_put 49 = .ok (.iload_n 1, 1)) ∧ (decode cX11_put 50 = .ok (.iload_n 2, 1)) ∧ (decode cX11_put 51 = .ok (.iload_n 3, 1)) := by decide +kernel
theorem gX11_put_3 : (decode cX11_put 52 = .ok (.invokevirtual 312, 3)) ∧ (decode cX11_put 55 = .ok (.iconst 1, 1)) ∧ (decode cX11_put 56 = .ok (.ireturn, 1)) := by decide +kernel
theorem m_904 : Cond.code yX4_write cX4_write 5 none ∈ BW := iB_BW48 _ (List.mem_of_getElem? (i := 13) rfl)
theorem m_901 : Cond.methodLink RX11 312 yX4_write ∈ BW := iB_BW48 _ (List.mem_of_getElem? (i := 10) rfl)
theorem m_902 : Cond.instanceMethod yX4_write ∈ BW := iB_BW48 _ (List.mem_of_getElem? (i := 11) rfl)
theorem m_903 : Cond.selects RX4 yX4_write yX4_write ∈ BW := iB_BW48 _ (List.mem_of_getElem? (i := 12) rfl)
theorem si_X11_312 : SV RX11 RX4 312 yX4_write cX4_write 5 none 3 := ⟨⟨m_901, m_902, m_903, m_113, m_904⟩, rfl, nK_RX4.1, nK_RX4.2, pd_4⟩
theorem gX11_item_0 : (decode cX11_item 0 = .ok (.iload_n 1, 1)) ∧ (decode cX11_item 1 = .ok (.invokestatic 164, 3)) ∧ (decode cX11_item 4 = .ok (.ifCond .eq 10, 3)) ∧ (decode cX11_item 7 = .ok (.iload_n 2, 1)) ∧ (decode cX11_item 8 = .ok (.invokestatic 315, 3)) ∧ (decode cX11_item 11 = .ok (.ifCond .ne 5, 3)) ∧ (decode cX11_item 14 = .ok (.iconst (-1), 1)) ∧ (decode cX11_item 15 = .ok (.ireturn, 1)) ∧ (decode cX11_item 16 = .ok (.aload_n 0, 1)) ∧ (decode cX11_item 17 = .ok (.getfield 72, 3)) := by decide +kernel
theorem m_911 : Cond.code yX11_isSort cX11_isSort 1 (some .boolean) ∈ BW := iB_BW49 _ (List.mem_of_getElem? (i := 0) rfl)
theorem m_909 : Cond.methodLink RX11 315 yX11_isSort ∈ BW := iB_BW48 _ (List.mem_of_getElem? (i := 18) rfl)
theorem m_910 : Cond.static yX11_isSort ∈ BW := iB_BW48 _ (List.mem_of_getElem? (i := 19) rfl)
theorem si_X11_315 : SS RX11 315 yX11_isSort cX11_isSort 1 (some .boolean) 1 := ⟨⟨m_909, m_910, m_102, m_911⟩, ⟨nK_RX11.1, nK_RX11.2, pd_5⟩⟩
theorem gX11_item_1 : (decode cX11_item 20 = .ok (.iload_n 1, 1)) ∧ (decode cX11_item 21 = .ok (.iload_n 2, 1)) ∧ (decode cX11_item 22 = .ok (.invokevirtual 167, 3)) ∧ (decode cX11_item 25 = .ok (.istore 4, 2)) ∧ (decode cX11_item 27 = .ok (.iload 4, 2)) ∧ (decode cX11_item 29 = .ok (.ifCond .eq 6, 3)) ∧ (decode cX11_item 32 = .ok (.iload 4, 2)) ∧ (decode cX11_item 34 = .ok (.ireturn, 1)) ∧ (decode cX11_item 35 = .ok (.iload_n 3, 1)) ∧ (decode cX11_item 36 = .ok (.iconst 0, 1)) := by decide +kernel
theorem m_411 : Cond.code yX4_refusal cX4_refusal 4 (some .int) ∈ BW := iB_BW22 _ (List.mem_of_getElem? (i := 15) rfl)
theorem m_408 : Cond.methodLink RX11 167 yX4_refusal ∈ BW := iB_BW22 _ (List.mem_of_getElem? (i := 12) rfl)
theorem m_409 : Cond.instanceMethod yX4_refusal ∈ BW := iB_BW22 _ (List.mem_of_getElem? (i := 13) rfl)
theorem m_410 : Cond.selects RX4 yX4_refusal yX4_refusal ∈ BW := iB_BW22 _ (List.mem_of_getElem? (i := 14) rfl)
theorem si_X11_167 : SV RX11 RX4 167 yX4_refusal cX4_refusal 4 (some .int) 2 := ⟨⟨m_408, m_409, m_410, m_113, m_411⟩, rfl, nK_RX4.1, nK_RX4.2, pd_2⟩
theorem gX11_item_2 : (decode cX11_item 37 = .ok (.aload_n 0, 1)) ∧ (decode cX11_item 38 = .ok (.getfield 72, 3)) ∧ (decode cX11_item 41 = .ok (.iload_n 1, 1)) ∧ (decode cX11_item 42 = .ok (.invokevirtual 170, 3)) ∧ (decode cX11_item 45 = .ok (.iconst 1, 1)) ∧ (decode cX11_item 46 = .ok (.isub, 1)) ∧ (decode cX11_item 47 = .ok (.invokestatic 83, 3)) ∧ (decode cX11_item 50 = .ok (.ifCond .ne 6, 3)) ∧ (decode cX11_item 53 = .ok (.bipush (-12), 2)) ∧ (decode cX11_item 55 = .ok (.ireturn, 1)) := by decide +kernel
theorem gX11_item_3 : (decode cX11_item 56 = .ok (.aload_n 0, 1)) ∧ (decode cX11_item 57 = .ok (.getfield 72, 3)) ∧ (decode cX11_item 60 = .ok (.iload_n 1, 1)) ∧ (decode cX11_item 61 = .ok (.iload_n 3, 1)) ∧ (decode cX11_item 62 = .ok (.invokevirtual 173, 3)) ∧ (decode cX11_item 65 = .ok (.ireturn, 1)) := by decide +kernel
theorem m_423 : Cond.code yX4_at cX4_at 3 (some .int) ∈ BW := iB_BW23 _ (List.mem_of_getElem? (i := 7) rfl)
theorem m_420 : Cond.methodLink RX11 173 yX4_at ∈ BW := iB_BW23 _ (List.mem_of_getElem? (i := 4) rfl)
theorem m_421 : Cond.instanceMethod yX4_at ∈ BW := iB_BW23 _ (List.mem_of_getElem? (i := 5) rfl)
theorem m_422 : Cond.selects RX4 yX4_at yX4_at ∈ BW := iB_BW23 _ (List.mem_of_getElem? (i := 6) rfl)
theorem si_X11_173 : SV RX11 RX4 173 yX4_at cX4_at 3 (some .int) 2 := ⟨⟨m_420, m_421, m_422, m_113, m_423⟩, rfl, nK_RX4.1, nK_RX4.2, pd_2⟩
theorem gX11_stamps_0 : (decode cX11_stamps 0 = .ok (.aload_n 0, 1)) ∧ (decode cX11_stamps 1 = .ok (.getfield 15, 3)) ∧ (decode cX11_stamps 4 = .ok (.getfield 144, 3)) ∧ (decode cX11_stamps 7 = .ok (.iload_n 1, 1)) ∧ (decode cX11_stamps 8 = .ok (.invokevirtual 124, 3)) ∧ (decode cX11_stamps 11 = .ok (.ifCond .eq 21, 3)) ∧ (decode cX11_stamps 14 = .ok (.iload_n 2, 1)) ∧ (decode cX11_stamps 15 = .ok (.invokestatic 164, 3)) ∧ (decode cX11_stamps 18 = .ok (.ifCond .eq 14, 3)) ∧ (decode cX11_stamps 21 = .ok (.iload 4, 2)) := by decide +kernel
theorem gX11_stamps_1 : (decode cX11_stamps 23 = .ok (.iconst 0, 1)) ∧ (decode cX11_stamps 24 = .ok (.bipush 9, 2)) ∧ (decode cX11_stamps 26 = .ok (.invokestatic 83, 3)) ∧ (decode cX11_stamps 29 = .ok (.ifCond .ne 5, 3)) ∧ (decode cX11_stamps 32 = .ok (.iconst (-1), 1)) ∧ (decode cX11_stamps 33 = .ok (.ireturn, 1)) ∧ (decode cX11_stamps 34 = .ok (.aload_n 0, 1)) ∧ (decode cX11_stamps 35 = .ok (.getfield 72, 3)) ∧ (decode cX11_stamps 38 = .ok (.iload_n 2, 1)) ∧ (decode cX11_stamps 39 = .ok (.iconst 1, 1)) := by decide +kernel
theorem gX11_stamps_2 : (decode cX11_stamps 40 = .ok (.invokevirtual 167, 3)) ∧ (decode cX11_stamps 43 = .ok (.istore 5, 2)) ∧ (decode cX11_stamps 45 = .ok (.iload 5, 2)) ∧ (decode cX11_stamps 47 = .ok (.ifCond .eq 6, 3)) ∧ (decode cX11_stamps 50 = .ok (.iload 5, 2)) ∧ (decode cX11_stamps 52 = .ok (.ireturn, 1)) ∧ (decode cX11_stamps 53 = .ok (.iload_n 3, 1)) ∧ (decode cX11_stamps 54 = .ok (.iconst 0, 1)) ∧ (decode cX11_stamps 55 = .ok (.aload_n 0, 1)) ∧ (decode cX11_stamps 56 = .ok (.getfield 72, 3)) := by decide +kernel
theorem gX11_stamps_3 : (decode cX11_stamps 59 = .ok (.iload_n 2, 1)) ∧ (decode cX11_stamps 60 = .ok (.invokevirtual 170, 3)) ∧ (decode cX11_stamps 63 = .ok (.invokestatic 83, 3)) ∧ (decode cX11_stamps 66 = .ok (.ifCond .eq 20, 3)) ∧ (decode cX11_stamps 69 = .ok (.iconst 2, 1)) ∧ (decode cX11_stamps 70 = .ok (.iload 4, 2)) ∧ (decode cX11_stamps 72 = .ok (.imul, 1)) ∧ (decode cX11_stamps 73 = .ok (.aload_n 0, 1)) ∧ (decode cX11_stamps 74 = .ok (.getfield 72, 3)) ∧ (decode cX11_stamps 77 = .ok (.iload_n 2, 1)) := by decide +kernel
theorem gX11_stamps_4 : (decode cX11_stamps 78 = .ok (.invokevirtual 170, 3)) ∧ (decode cX11_stamps 81 = .ok (.iload_n 3, 1)) ∧ (decode cX11_stamps 82 = .ok (.isub, 1)) ∧ (decode cX11_stamps 83 = .ok (.if_icmp .le 6, 3)) ∧ (decode cX11_stamps 86 = .ok (.bipush (-12), 2)) ∧ (decode cX11_stamps 88 = .ok (.ireturn, 1)) ∧ (decode cX11_stamps 89 = .ok (.iconst 0, 1)) ∧ (decode cX11_stamps 90 = .ok (.istore 6, 2)) ∧ (decode cX11_stamps 92 = .ok (.iload 6, 2)) ∧ (decode cX11_stamps 94 = .ok (.iload 4, 2)) := by decide +kernel
theorem gX11_stamps_5 : (decode cX11_stamps 96 = .ok (.if_icmp .ge 48, 3)) ∧ (decode cX11_stamps 99 = .ok (.aload_n 0, 1)) ∧ (decode cX11_stamps 100 = .ok (.getfield 72, 3)) ∧ (decode cX11_stamps 103 = .ok (.iload_n 2, 1)) ∧ (decode cX11_stamps 104 = .ok (.iload_n 3, 1)) ∧ (decode cX11_stamps 105 = .ok (.iconst 2, 1)) ∧ (decode cX11_stamps 106 = .ok (.iload 6, 2)) ∧ (decode cX11_stamps 108 = .ok (.imul, 1)) ∧ (decode cX11_stamps 109 = .ok (.iadd, 1)) ∧ (decode cX11_stamps 110 = .ok (.invokevirtual 173, 3)) := by decide +kernel
theorem gX11_stamps_7 : (decode cX11_stamps 126 = .ok (.invokevirtual 173, 3)) ∧ (decode cX11_stamps 129 = .ok (.invokestatic 154, 3)) ∧ (decode cX11_stamps 132 = .ok (.ifCond .ne 6, 3)) ∧ (decode cX11_stamps 135 = .ok (.bipush (-4), 2)) ∧ (decode cX11_stamps 137 = .ok (.ireturn, 1)) ∧ (decode cX11_stamps 138 = .ok (.iinc 6 1, 3)) ∧ (decode cX11_stamps 141 = .ok (.goto (-49), 3)) ∧ (decode cX11_stamps 144 = .ok (.aload_n 0, 1)) ∧ (decode cX11_stamps 145 = .ok (.getfield 15, 3)) ∧ (decode cX11_stamps 148 = .ok (.getfield 157, 3)) := by decide +kernel
theorem gX11_stamps_8 : (decode cX11_stamps 151 = .ok (.invokevirtual 174, 3)) ∧ (decode cX11_stamps 154 = .ok (.iload 4, 2)) ∧ (decode cX11_stamps 156 = .ok (.iadd, 1)) ∧ (decode cX11_stamps 157 = .ok (.bipush 24, 2)) ∧ (decode cX11_stamps 159 = .ok (.if_icmp .le 6, 3)) ∧ (decode cX11_stamps 162 = .ok (.bipush (-2), 2)) ∧ (decode cX11_stamps 164 = .ok (.ireturn, 1)) ∧ (decode cX11_stamps 165 = .ok (.iconst 0, 1)) ∧ (decode cX11_stamps 166 = .ok (.istore 6, 2)) ∧ (decode cX11_stamps 168 = .ok (.iload 6, 2)) := by decide +kernel
theorem gX11_stamps_9 : (decode cX11_stamps 170 = .ok (.iload 4, 2)) ∧ (decode cX11_stamps 172 = .ok (.if_icmp .ge 48, 3)) ∧ (decode cX11_stamps 175 = .ok (.aload_n 0, 1)) ∧ (decode cX11_stamps 176 = .ok (.getfield 15, 3)) ∧ (decode cX11_stamps 179 = .ok (.iload_n 1, 1)) ∧ (decode cX11_stamps 180 = .ok (.aload_n 0, 1)) ∧ (decode cX11_stamps 181 = .ok (.getfield 72, 3)) ∧ (decode cX11_stamps 184 = .ok (.iload_n 2, 1)) ∧ (decode cX11_stamps 185 = .ok (.iload_n 3, 1)) ∧ (decode cX11_stamps 186 = .ok (.iconst 2, 1)) := by decide +kernel
theorem gX11_stamps_11 : (decode cX11_stamps 203 = .ok (.imul, 1)) ∧ (decode cX11_stamps 204 = .ok (.iadd, 1)) ∧ (decode cX11_stamps 205 = .ok (.iconst 1, 1)) ∧ (decode cX11_stamps 206 = .ok (.iadd, 1)) ∧ (decode cX11_stamps 207 = .ok (.invokevirtual 173, 3)) ∧ (decode cX11_stamps 210 = .ok (.invokevirtual 160, 3)) ∧ (decode cX11_stamps 213 = .ok (.pop, 1)) ∧ (decode cX11_stamps 214 = .ok (.iinc 6 1, 3)) ∧ (decode cX11_stamps 217 = .ok (.goto (-49), 3)) ∧ (decode cX11_stamps 220 = .ok (.aload_n 0, 1)) := by decide +kernel
theorem gX11_stamps_12 : (decode cX11_stamps 221 = .ok (.getfield 15, 3)) ∧ (decode cX11_stamps 224 = .ok (.getfield 157, 3)) ∧ (decode cX11_stamps 227 = .ok (.invokevirtual 174, 3)) ∧ (decode cX11_stamps 230 = .ok (.ireturn, 1)) := by decide +kernel
theorem gX11_stamps_10 : (decode cX11_stamps 187 = .ok (.iload 6, 2)) ∧ (decode cX11_stamps 189 = .ok (.imul, 1)) ∧ (decode cX11_stamps 190 = .ok (.iadd, 1)) ∧ (decode cX11_stamps 191 = .ok (.invokevirtual 173, 3)) ∧ (decode cX11_stamps 194 = .ok (.aload_n 0, 1)) ∧ (decode cX11_stamps 195 = .ok (.getfield 72, 3)) ∧ (decode cX11_stamps 198 = .ok (.iload_n 2, 1)) ∧ (decode cX11_stamps 199 = .ok (.iload_n 3, 1)) ∧ (decode cX11_stamps 200 = .ok (.iconst 2, 1)) ∧ (decode cX11_stamps 201 = .ok (.iload 6, 2)) := by decide +kernel
theorem gX11_stamps_6 : (decode cX11_stamps 113 = .ok (.aload_n 0, 1)) ∧ (decode cX11_stamps 114 = .ok (.getfield 72, 3)) ∧ (decode cX11_stamps 117 = .ok (.iload_n 2, 1)) ∧ (decode cX11_stamps 118 = .ok (.iload_n 3, 1)) ∧ (decode cX11_stamps 119 = .ok (.iconst 2, 1)) ∧ (decode cX11_stamps 120 = .ok (.iload 6, 2)) ∧ (decode cX11_stamps 122 = .ok (.imul, 1)) ∧ (decode cX11_stamps 123 = .ok (.iadd, 1)) ∧ (decode cX11_stamps 124 = .ok (.iconst 1, 1)) ∧ (decode cX11_stamps 125 = .ok (.iadd, 1)) := by decide +kernel
end WR
/-- what shelf answers, by the counts of papers, sayings, findings -/
noncomputable def SHX (x1 x2 x3 : Int32) (kp ks kf : Nat) : Int32 := ifc (Wi x1 0 3) (ifc (x2 = 0) (ifc (Hs x3 kp) 1 (-1)) (ifc (x2 = 1) (ifc (Hs x3 ks) 1 (-1)) (ifc (x2 = 2) (ifc (Hs x3 kf) 1 (-1)) (ifc (x2 = 3) (ifc (Wi x3 0 3) 1 (-1)) (ifc (x2 = 4) 1 (-1)))))) (-1)
theorem ifc_1 {q : Prop} {a : Int32} (h : ifc q a (-1) = 1) : q ∧ a = 1 := by
  by_cases c : q
  · rw [ifc_t c] at h; exact ⟨c, h⟩
  · rw [ifc_f c] at h; exact absurd h (by decide)
theorem SHX.one {x1 x2 x3 : Int32} {kp ks kf : Nat} (h : SHX x1 x2 x3 kp ks kf = 1) : Wi x1 0 3 ∧ (x2 = 0 ∨ x2 = 1 ∨ x2 = 2 ∨ (x2 = 3 ∧ Wi x3 0 3) ∨ x2 = 4) := by
  unfold SHX at h
  obtain ⟨h1, h⟩ := ifc_1 h
  refine ⟨h1, ?_⟩
  by_cases c0 : x2 = 0
  · exact Or.inl c0
  by_cases c1 : x2 = 1
  · exact Or.inr (Or.inl c1)
  by_cases c2 : x2 = 2
  · exact Or.inr (Or.inr (Or.inl c2))
  rw [ifc_f c0, ifc_f c1, ifc_f c2] at h
  by_cases c3 : x2 = 3
  · rw [ifc_t c3] at h
    exact Or.inr (Or.inr (Or.inr (Or.inl ⟨c3, (ifc_1 h).1⟩)))
  · rw [ifc_f c3] at h
    exact Or.inr (Or.inr (Or.inr (Or.inr (ifc_1 h).1)))
section WR
variable {p : Program} {l : Launch} {e : Env} {R : Room} {s : State} {m : MethodId} {args : Array Value} {below : List Frame} {meth : Method} {c : Code} {H : Heap} {locs : List Loc} {cells slots : Nat} {Q : State → Prop}
variable {pc : Nat} {ls : Array Slot} {rest : List Value} {G : GG} {ws : va_W} {A : Nat → Prop} {y0 : MethodName} {b0 : ByteArray} {mL0 : Nat} {rt0 : Option FieldType} {a : Nat} {H0 : Heap}
theorem gX11_shelf_0 : (decode cX11_shelf 0 = .ok (.iload_n 1, 1)) ∧ (decode cX11_shelf 1 = .ok (.invokestatic 318, 3)) ∧ (decode cX11_shelf 4 = .ok (.ifCond .ne 5, 3)) ∧ (decode cX11_shelf 7 = .ok (.iconst (-1), 1)) ∧ (decode cX11_shelf 8 = .ok (.ireturn, 1)) ∧ (decode cX11_shelf 9 = .ok (.iload_n 2, 1)) ∧ (decode cX11_shelf 10 = .ok (.tableswitch 94 0 4 #[34, 50, 66, 82, 91], 34)) ∧ (decode cX11_shelf 44 = .ok (.aload_n 0, 1)) ∧ (decode cX11_shelf 45 = .ok (.getfield 15, 3)) ∧ (decode cX11_shelf 48 = .ok (.getfield 144, 3)) := by decide +kernel
theorem m_916 : Cond.methodLink RX11 318 yX11_isShelf ∈ BW := iB_BW49 _ (List.mem_of_getElem? (i := 5) rfl)
theorem si_X11_318 : SS RX11 318 yX11_isShelf cX11_isShelf 1 (some .boolean) 1 := ⟨⟨m_916, m_917, m_102, m_918⟩, ⟨nK_RX11.1, nK_RX11.2, pd_5⟩⟩
theorem gX11_shelf_1 : (decode cX11_shelf 51 = .ok (.iload_n 3, 1)) ∧ (decode cX11_shelf 52 = .ok (.invokevirtual 124, 3)) ∧ (decode cX11_shelf 55 = .ok (.ifCond .ne 51, 3)) ∧ (decode cX11_shelf 58 = .ok (.iconst (-1), 1)) ∧ (decode cX11_shelf 59 = .ok (.ireturn, 1)) ∧ (decode cX11_shelf 60 = .ok (.aload_n 0, 1)) ∧ (decode cX11_shelf 61 = .ok (.getfield 15, 3)) ∧ (decode cX11_shelf 64 = .ok (.getfield 256, 3)) ∧ (decode cX11_shelf 67 = .ok (.iload_n 3, 1)) ∧ (decode cX11_shelf 68 = .ok (.invokevirtual 124, 3)) := by decide +kernel
theorem gX11_shelf_3 : (decode cX11_shelf 91 = .ok (.ireturn, 1)) ∧ (decode cX11_shelf 92 = .ok (.iload_n 3, 1)) ∧ (decode cX11_shelf 93 = .ok (.invokestatic 164, 3)) ∧ (decode cX11_shelf 96 = .ok (.ifCond .ne 10, 3)) ∧ (decode cX11_shelf 99 = .ok (.iconst (-1), 1)) ∧ (decode cX11_shelf 100 = .ok (.ireturn, 1)) ∧ (decode cX11_shelf 101 = .ok (.goto 5, 3)) ∧ (decode cX11_shelf 104 = .ok (.iconst (-1), 1)) ∧ (decode cX11_shelf 105 = .ok (.ireturn, 1)) ∧ (decode cX11_shelf 106 = .ok (.iload_n 2, 1)) := by decide +kernel
theorem gX11_shelf_4 : (decode cX11_shelf 107 = .ok (.iconst 3, 1)) ∧ (decode cX11_shelf 108 = .ok (.if_icmp .ne 15, 3)) ∧ (decode cX11_shelf 111 = .ok (.aload_n 0, 1)) ∧ (decode cX11_shelf 112 = .ok (.getfield 72, 3)) ∧ (decode cX11_shelf 115 = .ok (.iload_n 1, 1)) ∧ (decode cX11_shelf 116 = .ok (.iload_n 3, 1)) ∧ (decode cX11_shelf 117 = .ok (.invokevirtual 321, 3)) ∧ (decode cX11_shelf 120 = .ok (.goto 13, 3)) ∧ (decode cX11_shelf 123 = .ok (.aload_n 0, 1)) ∧ (decode cX11_shelf 124 = .ok (.getfield 72, 3)) := by decide +kernel
theorem gX11_shelf_5 : (decode cX11_shelf 127 = .ok (.iload_n 1, 1)) ∧ (decode cX11_shelf 128 = .ok (.iload_n 2, 1)) ∧ (decode cX11_shelf 129 = .ok (.iload_n 3, 1)) ∧ (decode cX11_shelf 130 = .ok (.invokevirtual 324, 3)) ∧ (decode cX11_shelf 133 = .ok (.iconst 1, 1)) ∧ (decode cX11_shelf 134 = .ok (.ireturn, 1)) := by decide +kernel
theorem m_927 : Cond.code yX4_hold cX4_hold 4 none ∈ BW := iB_BW49 _ (List.mem_of_getElem? (i := 16) rfl)
theorem m_924 : Cond.methodLink RX11 324 yX4_hold ∈ BW := iB_BW49 _ (List.mem_of_getElem? (i := 13) rfl)
theorem m_925 : Cond.instanceMethod yX4_hold ∈ BW := iB_BW49 _ (List.mem_of_getElem? (i := 14) rfl)
theorem m_926 : Cond.selects RX4 yX4_hold yX4_hold ∈ BW := iB_BW49 _ (List.mem_of_getElem? (i := 15) rfl)
theorem si_X11_324 : SV RX11 RX4 324 yX4_hold cX4_hold 4 none 3 := ⟨⟨m_924, m_925, m_926, m_113, m_927⟩, rfl, nK_RX4.1, nK_RX4.2, pd_4⟩
theorem gX11_shelf_2 : (decode cX11_shelf 71 = .ok (.ifCond .ne 35, 3)) ∧ (decode cX11_shelf 74 = .ok (.iconst (-1), 1)) ∧ (decode cX11_shelf 75 = .ok (.ireturn, 1)) ∧ (decode cX11_shelf 76 = .ok (.aload_n 0, 1)) ∧ (decode cX11_shelf 77 = .ok (.getfield 15, 3)) ∧ (decode cX11_shelf 80 = .ok (.getfield 271, 3)) ∧ (decode cX11_shelf 83 = .ok (.iload_n 3, 1)) ∧ (decode cX11_shelf 84 = .ok (.invokevirtual 124, 3)) ∧ (decode cX11_shelf 87 = .ok (.ifCond .ne 19, 3)) ∧ (decode cX11_shelf 90 = .ok (.iconst (-1), 1)) := by decide +kernel
theorem m_922 : Cond.code yX4_holdRow cX4_holdRow 3 none ∈ BW := iB_BW49 _ (List.mem_of_getElem? (i := 11) rfl)
theorem m_919 : Cond.methodLink RX11 321 yX4_holdRow ∈ BW := iB_BW49 _ (List.mem_of_getElem? (i := 8) rfl)
theorem m_920 : Cond.instanceMethod yX4_holdRow ∈ BW := iB_BW49 _ (List.mem_of_getElem? (i := 9) rfl)
theorem m_921 : Cond.selects RX4 yX4_holdRow yX4_holdRow ∈ BW := iB_BW49 _ (List.mem_of_getElem? (i := 10) rfl)
theorem si_X11_321 : SV RX11 RX4 321 yX4_holdRow cX4_holdRow 3 none 2 := ⟨⟨m_919, m_920, m_921, m_113, m_922⟩, rfl, nK_RX4.1, nK_RX4.2, pd_14⟩
theorem gX2_ran_0 : (decode cX2_ran 0 = .ok (.aload_n 0, 1)) ∧ (decode cX2_ran 1 = .ok (.getfield 19, 3)) ∧ (decode cX2_ran 4 = .ok (.ireturn, 1)) := by decide +kernel
theorem in_X2 : ∀ w ∈ wsX20, w ∈ BW := iB_wsX20
theorem m_271 : Cond.fieldLink RX2 19 "InquiryBench$Deale\x72" "ran" "I" ∈ BW := iB_BW14 _ (List.mem_of_getElem? (i := 17) rfl)
theorem gf_X2_19 (hC : CX p s m meth c y0 b0 mL0 rt0 args) (hy0 : y0.cls = RX2) (hK : KK G s) (hP : va_P G.1 vwCl ws H) (q0 : Nat) {fs : List Value} {v : Value} (he : ws[q0]? = some (a, .inr (2, fs))) (hv : fs[2]? = some v) (hdg : decode b0 pc = .ok (.getfield 19, 3)) (kk : W p l e R s m args below meth c H locs cells slots Q (F0 m (pc + 3) ls (v :: rest))) : W p l e R s m args below meth c H locs cells slots Q (F0 m pc ls (.ref a :: rest)) := by
  obtain ⟨hx, hb, hr, hml, hB, hown, hlocks, hnm⟩ := hC
  rw [hy0] at hown
  exact va_get (ci := 2) (C := RX2) (T := TX2) (N := 8) hx hb hB in_X2 hown hK.1 hP q0 he rfl 2 (by decide) (hB _ m_271) (fun _ h => h) hv hdg kk
theorem gX2_traced_0 : (decode cX2_traced 0 = .ok (.iload_n 1, 1)) ∧ (decode cX2_traced 1 = .ok (.ifCond .lt 26, 3)) ∧ (decode cX2_traced 4 = .ok (.iload_n 1, 1)) ∧ (decode cX2_traced 5 = .ok (.aload_n 0, 1)) ∧ (decode cX2_traced 6 = .ok (.getfield 19, 3)) ∧ (decode cX2_traced 9 = .ok (.if_icmp .ge 18, 3)) ∧ (decode cX2_traced 12 = .ok (.iload_n 1, 1)) ∧ (decode cX2_traced 13 = .ok (.bipush 30, 2)) ∧ (decode cX2_traced 15 = .ok (.if_icmp .ge 12, 3)) ∧ (decode cX2_traced 18 = .ok (.aload_n 0, 1)) := by decide +kernel
theorem gX2_traced_1 : (decode cX2_traced 19 = .ok (.getfield 11, 3)) ∧ (decode cX2_traced 22 = .ok (.iload_n 1, 1)) ∧ (decode cX2_traced 23 = .ok (.iaload, 1)) ∧ (decode cX2_traced 24 = .ok (.goto 5, 3)) ∧ (decode cX2_traced 27 = .ok (.bipush (-3), 2)) ∧ (decode cX2_traced 29 = .ok (.ireturn, 1)) := by decide +kernel
theorem m_270 : Cond.fieldLink RX2 11 "InquiryBench$Deale\x72" "trace" "[I" ∈ BW := iB_BW14 _ (List.mem_of_getElem? (i := 16) rfl)
theorem gf_X2_11 (hC : CX p s m meth c y0 b0 mL0 rt0 args) (hy0 : y0.cls = RX2) (hK : KK G s) (hP : va_P G.1 vwCl ws H) (q0 : Nat) {fs : List Value} {v : Value} (he : ws[q0]? = some (a, .inr (2, fs))) (hv : fs[1]? = some v) (hdg : decode b0 pc = .ok (.getfield 11, 3)) (kk : W p l e R s m args below meth c H locs cells slots Q (F0 m (pc + 3) ls (v :: rest))) : W p l e R s m args below meth c H locs cells slots Q (F0 m pc ls (.ref a :: rest)) := by
  obtain ⟨hx, hb, hr, hml, hB, hown, hlocks, hnm⟩ := hC
  rw [hy0] at hown
  exact va_get (ci := 2) (C := RX2) (T := TX2) (N := 8) hx hb hB in_X2 hown hK.1 hP q0 he rfl 1 (by decide) (hB _ m_270) (fun _ h => h) hv hdg kk
theorem gX11_trace_0 : (decode cX11_trace 0 = .ok (.iload_n 1, 1)) ∧ (decode cX11_trace 1 = .ok (.iconst 0, 1)) ∧ (decode cX11_trace 2 = .ok (.aload_n 0, 1)) ∧ (decode cX11_trace 3 = .ok (.getfield 79, 3)) ∧ (decode cX11_trace 6 = .ok (.invokevirtual 349, 3)) ∧ (decode cX11_trace 9 = .ok (.iconst 1, 1)) ∧ (decode cX11_trace 10 = .ok (.isub, 1)) ∧ (decode cX11_trace 11 = .ok (.invokestatic 83, 3)) ∧ (decode cX11_trace 14 = .ok (.ifCond .eq 14, 3)) ∧ (decode cX11_trace 17 = .ok (.aload_n 0, 1)) := by decide +kernel
theorem m_287 : Cond.fieldLink RX11 79 "InquiryBench" "deale\x72" "LInquiryBench$Dealer;" ∈ BW := iB_BW15 _ (List.mem_of_getElem? (i := 13) rfl)
theorem gf_X11_79 (hC : CX p s m meth c y0 b0 mL0 rt0 args) (hy0 : y0.cls = RX11) (hK : KK G s) (hP : va_P G.1 vwCl ws H) (q0 : Nat) {fs : List Value} {v : Value} (he : ws[q0]? = some (a, .inr (11, fs))) (hv : fs[10]? = some v) (hdg : decode b0 pc = .ok (.getfield 79, 3)) (kk : W p l e R s m args below meth c H locs cells slots Q (F0 m (pc + 3) ls (v :: rest))) : W p l e R s m args below meth c H locs cells slots Q (F0 m pc ls (.ref a :: rest)) := by
  obtain ⟨hx, hb, hr, hml, hB, hown, hlocks, hnm⟩ := hC
  rw [hy0] at hown
  exact va_get (ci := 11) (C := RX11) (T := TX11) (N := 11) hx hb hB in_X11 hown hK.1 hP q0 he rfl 10 (by decide) (hB _ m_287) (fun _ h => h) hv hdg kk
theorem m_990 : Cond.code yX2_ran cX2_ran 1 (some .int) ∈ BW := iB_BW52 _ (List.mem_of_getElem? (i := 19) rfl)
theorem m_114 : Cond.initialized RX2 ∈ BW := iB_BW6 _ (List.mem_of_getElem? (i := 12) rfl)
theorem nK_RX2 : RX2 ≠ "java/lang/invoke/MethodHandle" ∧ RX2 ≠ "java/lang/invoke/VarHandle" := ⟨by decide +kernel, by decide +kernel⟩
theorem m_987 : Cond.methodLink RX11 349 yX2_ran ∈ BW := iB_BW52 _ (List.mem_of_getElem? (i := 16) rfl)
theorem m_988 : Cond.instanceMethod yX2_ran ∈ BW := iB_BW52 _ (List.mem_of_getElem? (i := 17) rfl)
theorem m_989 : Cond.selects RX2 yX2_ran yX2_ran ∈ BW := iB_BW52 _ (List.mem_of_getElem? (i := 18) rfl)
theorem si_X11_349 : SV RX11 RX2 349 yX2_ran cX2_ran 1 (some .int) 0 := ⟨⟨m_987, m_988, m_989, m_114, m_990⟩, rfl, nK_RX2.1, nK_RX2.2, pd_1⟩
theorem gX11_trace_1 : (decode cX11_trace 18 = .ok (.getfield 79, 3)) ∧ (decode cX11_trace 21 = .ok (.iload_n 1, 1)) ∧ (decode cX11_trace 22 = .ok (.invokevirtual 352, 3)) ∧ (decode cX11_trace 25 = .ok (.goto 5, 3)) ∧ (decode cX11_trace 28 = .ok (.bipush (-3), 2)) ∧ (decode cX11_trace 30 = .ok (.ireturn, 1)) := by decide +kernel
theorem m_994 : Cond.code yX2_traced cX2_traced 2 (some .int) ∈ BW := iB_BW53 _ (List.mem_of_getElem? (i := 3) rfl)
theorem m_991 : Cond.methodLink RX11 352 yX2_traced ∈ BW := iB_BW53 _ (List.mem_of_getElem? (i := 0) rfl)
theorem m_992 : Cond.instanceMethod yX2_traced ∈ BW := iB_BW53 _ (List.mem_of_getElem? (i := 1) rfl)
theorem m_993 : Cond.selects RX2 yX2_traced yX2_traced ∈ BW := iB_BW53 _ (List.mem_of_getElem? (i := 2) rfl)
theorem si_X11_352 : SV RX11 RX2 352 yX2_traced cX2_traced 2 (some .int) 1 := ⟨⟨m_991, m_992, m_993, m_114, m_994⟩, rfl, nK_RX2.1, nK_RX2.2, pd_7⟩
theorem gX10_count_0 : (decode cX10_count 0 = .ok (.aload_n 0, 1)) ∧ (decode cX10_count 1 = .ok (.getfield 27, 3)) ∧ (decode cX10_count 4 = .ok (.ireturn, 1)) := by decide +kernel
theorem in_X10 : ∀ w ∈ wsX100, w ∈ BW := iB_wsX100
theorem m_230 : Cond.fieldLink RX10 27 "InquiryBench$Tape" "count" "I" ∈ BW := iB_BW12 _ (List.mem_of_getElem? (i := 16) rfl)
theorem gf_X10_27 (hC : CX p s m meth c y0 b0 mL0 rt0 args) (hy0 : y0.cls = RX10) (hK : KK G s) (hP : va_P G.1 vwCl ws H) (q0 : Nat) {fs : List Value} {v : Value} (he : ws[q0]? = some (a, .inr (10, fs))) (hv : fs[1]? = some v) (hdg : decode b0 pc = .ok (.getfield 27, 3)) (kk : W p l e R s m args below meth c H locs cells slots Q (F0 m (pc + 3) ls (v :: rest))) : W p l e R s m args below meth c H locs cells slots Q (F0 m pc ls (.ref a :: rest)) := by
  obtain ⟨hx, hb, hr, hml, hB, hown, hlocks, hnm⟩ := hC
  rw [hy0] at hown
  exact va_get (ci := 10) (C := RX10) (T := TX10) (N := 8) hx hb hB in_X10 hown hK.1 hP q0 he rfl 1 (by decide) (hB _ m_230) (fun _ h => h) hv hdg kk
theorem gX11_many_0 : (decode cX11_many 0 = .ok (.iload_n 1, 1)) ∧ (decode cX11_many 1 = .ok (.tableswitch 236 0 14 #[75, 83, 94, 105, 116, 127, 138, 149, 164, 175, 187, 198, 209, 220, 228], 75)) ∧ (decode cX11_many 76 = .ok (.aload_n 0, 1)) ∧ (decode cX11_many 77 = .ok (.getfield 15, 3)) ∧ (decode cX11_many 80 = .ok (.getfield 87, 3)) ∧ (decode cX11_many 83 = .ok (.ireturn, 1)) ∧ (decode cX11_many 84 = .ok (.aload_n 0, 1)) ∧ (decode cX11_many 85 = .ok (.getfield 15, 3)) ∧ (decode cX11_many 88 = .ok (.getfield 107, 3)) ∧ (decode cX11_many 91 = .ok (.invokevirtual 174, 3)) := by decide +kernel
theorem gX11_many_1 : (decode cX11_many 94 = .ok (.ireturn, 1)) ∧ (decode cX11_many 95 = .ok (.aload_n 0, 1)) ∧ (decode cX11_many 96 = .ok (.getfield 15, 3)) ∧ (decode cX11_many 99 = .ok (.getfield 144, 3)) ∧ (decode cX11_many 102 = .ok (.invokevirtual 174, 3)) ∧ (decode cX11_many 105 = .ok (.ireturn, 1)) ∧ (decode cX11_many 106 = .ok (.aload_n 0, 1)) ∧ (decode cX11_many 107 = .ok (.getfield 15, 3)) ∧ (decode cX11_many 110 = .ok (.invokevirtual 97, 3)) ∧ (decode cX11_many 113 = .ok (.invokestatic 101, 3)) := by decide +kernel
theorem gX11_many_2 : (decode cX11_many 116 = .ok (.ireturn, 1)) ∧ (decode cX11_many 117 = .ok (.aload_n 0, 1)) ∧ (decode cX11_many 118 = .ok (.getfield 15, 3)) ∧ (decode cX11_many 121 = .ok (.getfield 157, 3)) ∧ (decode cX11_many 124 = .ok (.invokevirtual 174, 3)) ∧ (decode cX11_many 127 = .ok (.ireturn, 1)) ∧ (decode cX11_many 128 = .ok (.aload_n 0, 1)) ∧ (decode cX11_many 129 = .ok (.getfield 15, 3)) ∧ (decode cX11_many 132 = .ok (.getfield 233, 3)) ∧ (decode cX11_many 135 = .ok (.invokevirtual 174, 3)) := by decide +kernel
theorem gX11_many_3 : (decode cX11_many 138 = .ok (.ireturn, 1)) ∧ (decode cX11_many 139 = .ok (.aload_n 0, 1)) ∧ (decode cX11_many 140 = .ok (.getfield 15, 3)) ∧ (decode cX11_many 143 = .ok (.getfield 256, 3)) ∧ (decode cX11_many 146 = .ok (.invokevirtual 174, 3)) ∧ (decode cX11_many 149 = .ok (.ireturn, 1)) ∧ (decode cX11_many 150 = .ok (.aload_n 0, 1)) ∧ (decode cX11_many 151 = .ok (.getfield 15, 3)) ∧ (decode cX11_many 154 = .ok (.aload_n 0, 1)) ∧ (decode cX11_many 155 = .ok (.getfield 15, 3)) := by decide +kernel
theorem gX11_many_4 : (decode cX11_many 158 = .ok (.invokevirtual 97, 3)) ∧ (decode cX11_many 161 = .ok (.invokevirtual 355, 3)) ∧ (decode cX11_many 164 = .ok (.ireturn, 1)) ∧ (decode cX11_many 165 = .ok (.aload_n 0, 1)) ∧ (decode cX11_many 166 = .ok (.getfield 15, 3)) ∧ (decode cX11_many 169 = .ok (.getfield 271, 3)) ∧ (decode cX11_many 172 = .ok (.invokevirtual 174, 3)) ∧ (decode cX11_many 175 = .ok (.ireturn, 1)) ∧ (decode cX11_many 176 = .ok (.aload_n 0, 1)) ∧ (decode cX11_many 177 = .ok (.aload_n 0, 1)) := by decide +kernel
theorem m_1002 : Cond.code yX0_countSayings cX0_countSayings 4 (some .int) ∈ BW := iB_BW53 _ (List.mem_of_getElem? (i := 11) rfl)
theorem m_999 : Cond.methodLink RX11 355 yX0_countSayings ∈ BW := iB_BW53 _ (List.mem_of_getElem? (i := 8) rfl)
theorem m_1000 : Cond.instanceMethod yX0_countSayings ∈ BW := iB_BW53 _ (List.mem_of_getElem? (i := 9) rfl)
theorem m_1001 : Cond.selects RX0 yX0_countSayings yX0_countSayings ∈ BW := iB_BW53 _ (List.mem_of_getElem? (i := 10) rfl)
theorem si_X11_355 : SV RX11 RX0 355 yX0_countSayings cX0_countSayings 4 (some .int) 1 := ⟨⟨m_999, m_1000, m_1001, m_103, m_1002⟩, rfl, nK_RX0.1, nK_RX0.2, pd_7⟩
theorem gX11_many_5 : (decode cX11_many 178 = .ok (.getfield 15, 3)) ∧ (decode cX11_many 181 = .ok (.invokevirtual 97, 3)) ∧ (decode cX11_many 184 = .ok (.invokevirtual 358, 3)) ∧ (decode cX11_many 187 = .ok (.ireturn, 1)) ∧ (decode cX11_many 188 = .ok (.aload_n 0, 1)) ∧ (decode cX11_many 189 = .ok (.getfield 15, 3)) ∧ (decode cX11_many 192 = .ok (.getfield 283, 3)) ∧ (decode cX11_many 195 = .ok (.invokevirtual 174, 3)) ∧ (decode cX11_many 198 = .ok (.ireturn, 1)) ∧ (decode cX11_many 199 = .ok (.aload_n 0, 1)) := by decide +kernel
theorem m_1005 : Cond.code yX11_countStanding cX11_countStanding 4 (some .int) ∈ BW := iB_BW53 _ (List.mem_of_getElem? (i := 14) rfl)
theorem m_1003 : Cond.methodLink RX11 358 yX11_countStanding ∈ BW := iB_BW53 _ (List.mem_of_getElem? (i := 12) rfl)
theorem m_1004 : Cond.instanceMethod yX11_countStanding ∈ BW := iB_BW53 _ (List.mem_of_getElem? (i := 13) rfl)
theorem m_47 : Cond.selects RX11 yX11_countStanding yX11_countStanding ∈ BW := iB_BW2 _ (List.mem_of_getElem? (i := 7) rfl)
theorem si_X11_358 : SV RX11 RX11 358 yX11_countStanding cX11_countStanding 4 (some .int) 1 := ⟨⟨m_1003, m_1004, m_47, m_102, m_1005⟩, rfl, nK_RX11.1, nK_RX11.2, pd_7⟩
theorem gX11_many_6 : (decode cX11_many 200 = .ok (.getfield 15, 3)) ∧ (decode cX11_many 203 = .ok (.getfield 286, 3)) ∧ (decode cX11_many 206 = .ok (.invokevirtual 174, 3)) ∧ (decode cX11_many 209 = .ok (.ireturn, 1)) ∧ (decode cX11_many 210 = .ok (.aload_n 0, 1)) ∧ (decode cX11_many 211 = .ok (.getfield 65, 3)) ∧ (decode cX11_many 214 = .ok (.getfield 292, 3)) ∧ (decode cX11_many 217 = .ok (.invokevirtual 174, 3)) ∧ (decode cX11_many 220 = .ok (.ireturn, 1)) ∧ (decode cX11_many 221 = .ok (.aload_n 0, 1)) := by decide +kernel
theorem gX11_many_7 : (decode cX11_many 222 = .ok (.getfield 58, 3)) ∧ (decode cX11_many 225 = .ok (.invokevirtual 224, 3)) ∧ (decode cX11_many 228 = .ok (.ireturn, 1)) ∧ (decode cX11_many 229 = .ok (.aload_n 0, 1)) ∧ (decode cX11_many 230 = .ok (.getfield 79, 3)) ∧ (decode cX11_many 233 = .ok (.invokevirtual 349, 3)) ∧ (decode cX11_many 236 = .ok (.ireturn, 1)) ∧ (decode cX11_many 237 = .ok (.iconst (-1), 1)) ∧ (decode cX11_many 238 = .ok (.ireturn, 1)) := by decide +kernel
theorem m_284 : Cond.fieldLink RX11 58 "InquiryBench" "tape" "LInquiryBench$Tape;" ∈ BW := iB_BW15 _ (List.mem_of_getElem? (i := 10) rfl)
theorem gf_X11_58 (hC : CX p s m meth c y0 b0 mL0 rt0 args) (hy0 : y0.cls = RX11) (hK : KK G s) (hP : va_P G.1 vwCl ws H) (q0 : Nat) {fs : List Value} {v : Value} (he : ws[q0]? = some (a, .inr (11, fs))) (hv : fs[7]? = some v) (hdg : decode b0 pc = .ok (.getfield 58, 3)) (kk : W p l e R s m args below meth c H locs cells slots Q (F0 m (pc + 3) ls (v :: rest))) : W p l e R s m args below meth c H locs cells slots Q (F0 m pc ls (.ref a :: rest)) := by
  obtain ⟨hx, hb, hr, hml, hB, hown, hlocks, hnm⟩ := hC
  rw [hy0] at hown
  exact va_get (ci := 11) (C := RX11) (T := TX11) (N := 11) hx hb hB in_X11 hown hK.1 hP q0 he rfl 7 (by decide) (hB _ m_284) (fun _ h => h) hv hdg kk
theorem m_607 : Cond.code yX10_count cX10_count 1 (some .int) ∈ BW := iB_BW33 _ (List.mem_of_getElem? (i := 7) rfl)
theorem m_111 : Cond.initialized RX10 ∈ BW := iB_BW6 _ (List.mem_of_getElem? (i := 9) rfl)
theorem nK_RX10 : RX10 ≠ "java/lang/invoke/MethodHandle" ∧ RX10 ≠ "java/lang/invoke/VarHandle" := ⟨by decide +kernel, by decide +kernel⟩
theorem m_604 : Cond.methodLink RX11 224 yX10_count ∈ BW := iB_BW33 _ (List.mem_of_getElem? (i := 4) rfl)
theorem m_605 : Cond.instanceMethod yX10_count ∈ BW := iB_BW33 _ (List.mem_of_getElem? (i := 5) rfl)
theorem m_606 : Cond.selects RX10 yX10_count yX10_count ∈ BW := iB_BW33 _ (List.mem_of_getElem? (i := 6) rfl)
theorem si_X11_224 : SV RX11 RX10 224 yX10_count cX10_count 1 (some .int) 0 := ⟨⟨m_604, m_605, m_606, m_111, m_607⟩, rfl, nK_RX10.1, nK_RX10.2, pd_1⟩
theorem sw_0_14 {x : Int32} : ¬ x = 0 → ¬ x = 1 → ¬ x = 2 → ¬ x = 3 → ¬ x = 4 → ¬ x = 5 → ¬ x = 6 → ¬ x = 7 → ¬ x = 8 → ¬ x = 9 → ¬ x = 10 → ¬ x = 11 → ¬ x = 12 → ¬ x = 13 → ¬ x = 14 →  (x.toInt < 0 ∨ 14 < x.toInt) := by
  intros
  simp only [← Int32.toInt_inj] at *
  have hk : ∀ k : Int, x.toInt = k → x.toInt = k := fun _ h => h
  have k0 : (0 : Int32).toInt = 0 := by decide
  have k1 : (1 : Int32).toInt = 1 := by decide
  have k2 : (2 : Int32).toInt = 2 := by decide
  have k3 : (3 : Int32).toInt = 3 := by decide
  have k4 : (4 : Int32).toInt = 4 := by decide
  have k5 : (5 : Int32).toInt = 5 := by decide
  have k6 : (6 : Int32).toInt = 6 := by decide
  have k7 : (7 : Int32).toInt = 7 := by decide
  have k8 : (8 : Int32).toInt = 8 := by decide
  have k9 : (9 : Int32).toInt = 9 := by decide
  have k10 : (10 : Int32).toInt = 10 := by decide
  have k11 : (11 : Int32).toInt = 11 := by decide
  have k12 : (12 : Int32).toInt = 12 := by decide
  have k13 : (13 : Int32).toInt = 13 := by decide
  have k14 : (14 : Int32).toInt = 14 := by decide
  omega
end WR
theorem rm_10_1_2 {mc ms : Nat} : 1 + 1 ≤ (RM 10 mc ms).frames ∧ 8 + (2 + 11) + 40 * 1 ≤ (RM 10 mc ms).locals := ⟨by show 1 + 1 ≤ 10; decide, by show 8 + (2 + 11) + 40 * 1 ≤ 40 * 10; decide⟩
theorem rm_10_8_3 {mc ms : Nat} : 8 + 1 ≤ (RM 10 mc ms).frames ∧ 8 + (3 + 11) + 40 * 8 ≤ (RM 10 mc ms).locals := ⟨by show 8 + 1 ≤ 10; decide, by show 8 + (3 + 11) + 40 * 8 ≤ 40 * 10; decide⟩
theorem sm_2_3_4_5_1_6_7 {a0 a1 a2 a3 a4 a5 a6 a7 : Nat × va_E} {l : va_W} : ([2, 3, 4, 5, 1, 6, 7] : List Nat).map (fun i => (a0 :: a1 :: a2 :: a3 :: a4 :: a5 :: a6 :: a7 :: l : va_W)[i]?) = ([a2, a3, a4, a5, a1, a6, a7] : va_W).map some := rfl
theorem fm_2_3_4_5_1_6_7 {a0 a1 a2 a3 a4 a5 a6 a7 : Nat × va_E} {l : va_W} : ([2, 3, 4, 5, 1, 6, 7] : List Nat).filterMap (fun i => (a0 :: a1 :: a2 :: a3 :: a4 :: a5 :: a6 :: a7 :: l : va_W)[i]?) = ([a2, a3, a4, a5, a1, a6, a7] : va_W) := rfl
theorem nd_2_3_4_5_1_6_7 : va_nd [2, 3, 4, 5, 1, 6, 7] = true := by decide
theorem dj_2_3_4_5_1_6_7__0 : ∀ i ∈ ([0] : List Nat), i ∉ ([2, 3, 4, 5, 1, 6, 7] : List Nat) := by decide
theorem dj_2__0_1 : ∀ i ∈ ([0, 1] : List Nat), i ∉ ([2] : List Nat) := by decide
theorem sm_2_3_4_1_5_6 {a0 a1 a2 a3 a4 a5 a6 : Nat × va_E} {l : va_W} : ([2, 3, 4, 1, 5, 6] : List Nat).map (fun i => (a0 :: a1 :: a2 :: a3 :: a4 :: a5 :: a6 :: l : va_W)[i]?) = ([a2, a3, a4, a1, a5, a6] : va_W).map some := rfl
theorem fm_2_3_4_1_5_6 {a0 a1 a2 a3 a4 a5 a6 : Nat × va_E} {l : va_W} : ([2, 3, 4, 1, 5, 6] : List Nat).filterMap (fun i => (a0 :: a1 :: a2 :: a3 :: a4 :: a5 :: a6 :: l : va_W)[i]?) = ([a2, a3, a4, a1, a5, a6] : va_W) := rfl
theorem nd_2_3_4_1_5_6 : va_nd [2, 3, 4, 1, 5, 6] = true := by decide
theorem rm_5_2_1 {mc ms : Nat} : 2 + 1 ≤ (RM 5 mc ms).frames ∧ 8 + (1 + 11) + 40 * 2 ≤ (RM 5 mc ms).locals := ⟨by show 2 + 1 ≤ 5; decide, by show 8 + (1 + 11) + 40 * 2 ≤ 40 * 5; decide⟩
theorem sm_1_2_3_4 {a0 a1 a2 a3 a4 : Nat × va_E} {l : va_W} : ([1, 2, 3, 4] : List Nat).map (fun i => (a0 :: a1 :: a2 :: a3 :: a4 :: l : va_W)[i]?) = ([a1, a2, a3, a4] : va_W).map some := rfl
theorem fm_1_2_3_4 {a0 a1 a2 a3 a4 : Nat × va_E} {l : va_W} : ([1, 2, 3, 4] : List Nat).filterMap (fun i => (a0 :: a1 :: a2 :: a3 :: a4 :: l : va_W)[i]?) = ([a1, a2, a3, a4] : va_W) := rfl
theorem nd_1_2_3_4 : va_nd [1, 2, 3, 4] = true := by decide
theorem dj_1_2_3_4__0 : ∀ i ∈ ([0] : List Nat), i ∉ ([1, 2, 3, 4] : List Nat) := by decide
theorem rm_5_3_2 {mc ms : Nat} : 3 + 1 ≤ (RM 5 mc ms).frames ∧ 8 + (2 + 11) + 40 * 3 ≤ (RM 5 mc ms).locals := ⟨by show 3 + 1 ≤ 5; decide, by show 8 + (2 + 11) + 40 * 3 ≤ 40 * 5; decide⟩
theorem sm_1_3 {a0 a1 a2 a3 : Nat × va_E} {l : va_W} : ([1, 3] : List Nat).map (fun i => (a0 :: a1 :: a2 :: a3 :: l : va_W)[i]?) = ([a1, a3] : va_W).map some := rfl
theorem fm_1_3 {a0 a1 a2 a3 : Nat × va_E} {l : va_W} : ([1, 3] : List Nat).filterMap (fun i => (a0 :: a1 :: a2 :: a3 :: l : va_W)[i]?) = ([a1, a3] : va_W) := rfl
theorem nd_1_3 : va_nd [1, 3] = true := by decide
theorem sm_1_2_4 {a0 a1 a2 a3 a4 : Nat × va_E} {l : va_W} : ([1, 2, 4] : List Nat).map (fun i => (a0 :: a1 :: a2 :: a3 :: a4 :: l : va_W)[i]?) = ([a1, a2, a4] : va_W).map some := rfl
theorem fm_1_2_4 {a0 a1 a2 a3 a4 : Nat × va_E} {l : va_W} : ([1, 2, 4] : List Nat).filterMap (fun i => (a0 :: a1 :: a2 :: a3 :: a4 :: l : va_W)[i]?) = ([a1, a2, a4] : va_W) := rfl
theorem nd_1_2_4 : va_nd [1, 2, 4] = true := by decide
theorem sm_0_3 {a0 a1 a2 a3 : Nat × va_E} {l : va_W} : ([0, 3] : List Nat).map (fun i => (a0 :: a1 :: a2 :: a3 :: l : va_W)[i]?) = ([a0, a3] : va_W).map some := rfl
theorem nd_0_3 : va_nd [0, 3] = true := by decide
theorem dj_1_2_4__0_3 : ∀ i ∈ ([0, 3] : List Nat), i ∉ ([1, 2, 4] : List Nat) := by decide
theorem rm_6_2_1 {mc ms : Nat} : 2 + 1 ≤ (RM 6 mc ms).frames ∧ 8 + (1 + 11) + 40 * 2 ≤ (RM 6 mc ms).locals := ⟨by show 2 + 1 ≤ 6; decide, by show 8 + (1 + 11) + 40 * 2 ≤ 40 * 6; decide⟩
theorem sm_1_4 {a0 a1 a2 a3 a4 : Nat × va_E} {l : va_W} : ([1, 4] : List Nat).map (fun i => (a0 :: a1 :: a2 :: a3 :: a4 :: l : va_W)[i]?) = ([a1, a4] : va_W).map some := rfl
theorem fm_1_4 {a0 a1 a2 a3 a4 : Nat × va_E} {l : va_W} : ([1, 4] : List Nat).filterMap (fun i => (a0 :: a1 :: a2 :: a3 :: a4 :: l : va_W)[i]?) = ([a1, a4] : va_W) := rfl
theorem nd_1_4 : va_nd [1, 4] = true := by decide
theorem sm_5_7 {a0 a1 a2 a3 a4 a5 a6 a7 : Nat × va_E} {l : va_W} : ([5, 7] : List Nat).map (fun i => (a0 :: a1 :: a2 :: a3 :: a4 :: a5 :: a6 :: a7 :: l : va_W)[i]?) = ([a5, a7] : va_W).map some := rfl
theorem fm_5_7 {a0 a1 a2 a3 a4 a5 a6 a7 : Nat × va_E} {l : va_W} : ([5, 7] : List Nat).filterMap (fun i => (a0 :: a1 :: a2 :: a3 :: a4 :: a5 :: a6 :: a7 :: l : va_W)[i]?) = ([a5, a7] : va_W) := rfl
theorem nd_5_7 : va_nd [5, 7] = true := by decide
theorem rm_5_3_3 {mc ms : Nat} : 3 + 1 ≤ (RM 5 mc ms).frames ∧ 8 + (3 + 11) + 40 * 3 ≤ (RM 5 mc ms).locals := ⟨by show 3 + 1 ≤ 5; decide, by show 8 + (3 + 11) + 40 * 3 ≤ 40 * 5; decide⟩
theorem sm_5_8 {a0 a1 a2 a3 a4 a5 a6 a7 a8 : Nat × va_E} {l : va_W} : ([5, 8] : List Nat).map (fun i => (a0 :: a1 :: a2 :: a3 :: a4 :: a5 :: a6 :: a7 :: a8 :: l : va_W)[i]?) = ([a5, a8] : va_W).map some := rfl
theorem fm_5_8 {a0 a1 a2 a3 a4 a5 a6 a7 a8 : Nat × va_E} {l : va_W} : ([5, 8] : List Nat).filterMap (fun i => (a0 :: a1 :: a2 :: a3 :: a4 :: a5 :: a6 :: a7 :: a8 :: l : va_W)[i]?) = ([a5, a8] : va_W) := rfl
theorem nd_5_8 : va_nd [5, 8] = true := by decide
theorem sm_1_3_4 {a0 a1 a2 a3 a4 : Nat × va_E} {l : va_W} : ([1, 3, 4] : List Nat).map (fun i => (a0 :: a1 :: a2 :: a3 :: a4 :: l : va_W)[i]?) = ([a1, a3, a4] : va_W).map some := rfl
theorem fm_1_3_4 {a0 a1 a2 a3 a4 : Nat × va_E} {l : va_W} : ([1, 3, 4] : List Nat).filterMap (fun i => (a0 :: a1 :: a2 :: a3 :: a4 :: l : va_W)[i]?) = ([a1, a3, a4] : va_W) := rfl
theorem nd_1_3_4 : va_nd [1, 3, 4] = true := by decide
theorem sm_0_2_5_6_7_8 {a0 a1 a2 a3 a4 a5 a6 a7 a8 : Nat × va_E} {l : va_W} : ([0, 2, 5, 6, 7, 8] : List Nat).map (fun i => (a0 :: a1 :: a2 :: a3 :: a4 :: a5 :: a6 :: a7 :: a8 :: l : va_W)[i]?) = ([a0, a2, a5, a6, a7, a8] : va_W).map some := rfl
theorem nd_0_2_5_6_7_8 : va_nd [0, 2, 5, 6, 7, 8] = true := by decide
theorem dj_1_3_4__0_2_5_6_7_8 : ∀ i ∈ ([0, 2, 5, 6, 7, 8] : List Nat), i ∉ ([1, 3, 4] : List Nat) := by decide
theorem fm_0_6_1_7_8_2_3_4_5 {a0 a1 a2 a3 a4 a5 a6 a7 a8 : Nat × va_E} {l : va_W} : ([0, 6, 1, 7, 8, 2, 3, 4, 5] : List Nat).filterMap (fun i => (a0 :: a1 :: a2 :: a3 :: a4 :: a5 :: a6 :: a7 :: a8 :: l : va_W)[i]?) = ([a0, a6, a1, a7, a8, a2, a3, a4, a5] : va_W) := rfl
theorem nd_0_6_1_7_8_2_3_4_5 : va_nd [0, 6, 1, 7, 8, 2, 3, 4, 5] = true := by decide
theorem sm_0_6_1_7_8_2_3_4_5 {a0 a1 a2 a3 a4 a5 a6 a7 a8 : Nat × va_E} {l : va_W} : ([0, 6, 1, 7, 8, 2, 3, 4, 5] : List Nat).map (fun i => (a0 :: a1 :: a2 :: a3 :: a4 :: a5 :: a6 :: a7 :: a8 :: l : va_W)[i]?) = ([a0, a6, a1, a7, a8, a2, a3, a4, a5] : va_W).map some := rfl
theorem sm_5_6_7 {a0 a1 a2 a3 a4 a5 a6 a7 : Nat × va_E} {l : va_W} : ([5, 6, 7] : List Nat).map (fun i => (a0 :: a1 :: a2 :: a3 :: a4 :: a5 :: a6 :: a7 :: l : va_W)[i]?) = ([a5, a6, a7] : va_W).map some := rfl
theorem fm_5_6_7 {a0 a1 a2 a3 a4 a5 a6 a7 : Nat × va_E} {l : va_W} : ([5, 6, 7] : List Nat).filterMap (fun i => (a0 :: a1 :: a2 :: a3 :: a4 :: a5 :: a6 :: a7 :: l : va_W)[i]?) = ([a5, a6, a7] : va_W) := rfl
theorem nd_5_6_7 : va_nd [5, 6, 7] = true := by decide
theorem sm_0_1_2_3_4_8_9_10 {a0 a1 a2 a3 a4 a5 a6 a7 a8 a9 a10 : Nat × va_E} {l : va_W} : ([0, 1, 2, 3, 4, 8, 9, 10] : List Nat).map (fun i => (a0 :: a1 :: a2 :: a3 :: a4 :: a5 :: a6 :: a7 :: a8 :: a9 :: a10 :: l : va_W)[i]?) = ([a0, a1, a2, a3, a4, a8, a9, a10] : va_W).map some := rfl
theorem nd_0_1_2_3_4_8_9_10 : va_nd [0, 1, 2, 3, 4, 8, 9, 10] = true := by decide
theorem dj_5_6_7__0_1_2_3_4_8_9_10 : ∀ i ∈ ([0, 1, 2, 3, 4, 8, 9, 10] : List Nat), i ∉ ([5, 6, 7] : List Nat) := by decide
theorem rm_5_4_3 {mc ms : Nat} : 4 + 1 ≤ (RM 5 mc ms).frames ∧ 8 + (3 + 11) + 40 * 4 ≤ (RM 5 mc ms).locals := ⟨by show 4 + 1 ≤ 5; decide, by show 8 + (3 + 11) + 40 * 4 ≤ 40 * 5; decide⟩
theorem sm_5_6_7_8_9_10 {a0 a1 a2 a3 a4 a5 a6 a7 a8 a9 a10 : Nat × va_E} {l : va_W} : ([5, 6, 7, 8, 9, 10] : List Nat).map (fun i => (a0 :: a1 :: a2 :: a3 :: a4 :: a5 :: a6 :: a7 :: a8 :: a9 :: a10 :: l : va_W)[i]?) = ([a5, a6, a7, a8, a9, a10] : va_W).map some := rfl
theorem fm_5_6_7_8_9_10 {a0 a1 a2 a3 a4 a5 a6 a7 a8 a9 a10 : Nat × va_E} {l : va_W} : ([5, 6, 7, 8, 9, 10] : List Nat).filterMap (fun i => (a0 :: a1 :: a2 :: a3 :: a4 :: a5 :: a6 :: a7 :: a8 :: a9 :: a10 :: l : va_W)[i]?) = ([a5, a6, a7, a8, a9, a10] : va_W) := rfl
theorem nd_5_6_7_8_9_10 : va_nd [5, 6, 7, 8, 9, 10] = true := by decide
theorem dj_5_6_7_8_9_10__0_1_2_3_4 : ∀ i ∈ ([0, 1, 2, 3, 4] : List Nat), i ∉ ([5, 6, 7, 8, 9, 10] : List Nat) := by decide
theorem rm_10_1_1 {mc ms : Nat} : 1 + 1 ≤ (RM 10 mc ms).frames ∧ 8 + (1 + 11) + 40 * 1 ≤ (RM 10 mc ms).locals := ⟨by show 1 + 1 ≤ 10; decide, by show 8 + (1 + 11) + 40 * 1 ≤ 40 * 10; decide⟩
theorem rm_10_3_6 {mc ms : Nat} : 3 + 1 ≤ (RM 10 mc ms).frames ∧ 8 + (6 + 11) + 40 * 3 ≤ (RM 10 mc ms).locals := ⟨by show 3 + 1 ≤ 10; decide, by show 8 + (6 + 11) + 40 * 3 ≤ 40 * 10; decide⟩
theorem sm_24 {a0 a1 a2 a3 a4 a5 a6 a7 a8 a9 a10 a11 a12 a13 a14 a15 a16 a17 a18 a19 a20 a21 a22 a23 a24 : Nat × va_E} {l : va_W} : ([24] : List Nat).map (fun i => (a0 :: a1 :: a2 :: a3 :: a4 :: a5 :: a6 :: a7 :: a8 :: a9 :: a10 :: a11 :: a12 :: a13 :: a14 :: a15 :: a16 :: a17 :: a18 :: a19 :: a20 :: a21 :: a22 :: a23 :: a24 :: l : va_W)[i]?) = ([a24] : va_W).map some := rfl
theorem fm_24 {a0 a1 a2 a3 a4 a5 a6 a7 a8 a9 a10 a11 a12 a13 a14 a15 a16 a17 a18 a19 a20 a21 a22 a23 a24 : Nat × va_E} {l : va_W} : ([24] : List Nat).filterMap (fun i => (a0 :: a1 :: a2 :: a3 :: a4 :: a5 :: a6 :: a7 :: a8 :: a9 :: a10 :: a11 :: a12 :: a13 :: a14 :: a15 :: a16 :: a17 :: a18 :: a19 :: a20 :: a21 :: a22 :: a23 :: a24 :: l : va_W)[i]?) = ([a24] : va_W) := rfl
theorem nd_24 : va_nd [24] = true := by decide
theorem sm_28 {a0 a1 a2 a3 a4 a5 a6 a7 a8 a9 a10 a11 a12 a13 a14 a15 a16 a17 a18 a19 a20 a21 a22 a23 a24 a25 a26 a27 a28 : Nat × va_E} {l : va_W} : ([28] : List Nat).map (fun i => (a0 :: a1 :: a2 :: a3 :: a4 :: a5 :: a6 :: a7 :: a8 :: a9 :: a10 :: a11 :: a12 :: a13 :: a14 :: a15 :: a16 :: a17 :: a18 :: a19 :: a20 :: a21 :: a22 :: a23 :: a24 :: a25 :: a26 :: a27 :: a28 :: l : va_W)[i]?) = ([a28] : va_W).map some := rfl
theorem fm_28 {a0 a1 a2 a3 a4 a5 a6 a7 a8 a9 a10 a11 a12 a13 a14 a15 a16 a17 a18 a19 a20 a21 a22 a23 a24 a25 a26 a27 a28 : Nat × va_E} {l : va_W} : ([28] : List Nat).filterMap (fun i => (a0 :: a1 :: a2 :: a3 :: a4 :: a5 :: a6 :: a7 :: a8 :: a9 :: a10 :: a11 :: a12 :: a13 :: a14 :: a15 :: a16 :: a17 :: a18 :: a19 :: a20 :: a21 :: a22 :: a23 :: a24 :: a25 :: a26 :: a27 :: a28 :: l : va_W)[i]?) = ([a28] : va_W) := rfl
theorem nd_28 : va_nd [28] = true := by decide
theorem rm_10_4_4 {mc ms : Nat} : 4 + 1 ≤ (RM 10 mc ms).frames ∧ 8 + (4 + 11) + 40 * 4 ≤ (RM 10 mc ms).locals := ⟨by show 4 + 1 ≤ 10; decide, by show 8 + (4 + 11) + 40 * 4 ≤ 40 * 10; decide⟩
theorem sm_13_28_29 {a0 a1 a2 a3 a4 a5 a6 a7 a8 a9 a10 a11 a12 a13 a14 a15 a16 a17 a18 a19 a20 a21 a22 a23 a24 a25 a26 a27 a28 a29 : Nat × va_E} {l : va_W} : ([13, 28, 29] : List Nat).map (fun i => (a0 :: a1 :: a2 :: a3 :: a4 :: a5 :: a6 :: a7 :: a8 :: a9 :: a10 :: a11 :: a12 :: a13 :: a14 :: a15 :: a16 :: a17 :: a18 :: a19 :: a20 :: a21 :: a22 :: a23 :: a24 :: a25 :: a26 :: a27 :: a28 :: a29 :: l : va_W)[i]?) = ([a13, a28, a29] : va_W).map some := rfl
theorem fm_13_28_29 {a0 a1 a2 a3 a4 a5 a6 a7 a8 a9 a10 a11 a12 a13 a14 a15 a16 a17 a18 a19 a20 a21 a22 a23 a24 a25 a26 a27 a28 a29 : Nat × va_E} {l : va_W} : ([13, 28, 29] : List Nat).filterMap (fun i => (a0 :: a1 :: a2 :: a3 :: a4 :: a5 :: a6 :: a7 :: a8 :: a9 :: a10 :: a11 :: a12 :: a13 :: a14 :: a15 :: a16 :: a17 :: a18 :: a19 :: a20 :: a21 :: a22 :: a23 :: a24 :: a25 :: a26 :: a27 :: a28 :: a29 :: l : va_W)[i]?) = ([a13, a28, a29] : va_W) := rfl
theorem nd_13_28_29 : va_nd [13, 28, 29] = true := by decide
theorem rm_10_8_4 {mc ms : Nat} : 8 + 1 ≤ (RM 10 mc ms).frames ∧ 8 + (4 + 11) + 40 * 8 ≤ (RM 10 mc ms).locals := ⟨by show 8 + 1 ≤ 10; decide, by show 8 + (4 + 11) + 40 * 8 ≤ 40 * 10; decide⟩
theorem sm_28_29_30_31_32_33_34_35 {a0 a1 a2 a3 a4 a5 a6 a7 a8 a9 a10 a11 a12 a13 a14 a15 a16 a17 a18 a19 a20 a21 a22 a23 a24 a25 a26 a27 a28 a29 a30 a31 a32 a33 a34 a35 : Nat × va_E} {l : va_W} : ([28, 29, 30, 31, 32, 33, 34, 35] : List Nat).map (fun i => (a0 :: a1 :: a2 :: a3 :: a4 :: a5 :: a6 :: a7 :: a8 :: a9 :: a10 :: a11 :: a12 :: a13 :: a14 :: a15 :: a16 :: a17 :: a18 :: a19 :: a20 :: a21 :: a22 :: a23 :: a24 :: a25 :: a26 :: a27 :: a28 :: a29 :: a30 :: a31 :: a32 :: a33 :: a34 :: a35 :: l : va_W)[i]?) = ([a28, a29, a30, a31, a32, a33, a34, a35] : va_W).map some := rfl
theorem nd_28_29_30_31_32_33_34_35 : va_nd [28, 29, 30, 31, 32, 33, 34, 35] = true := by decide
theorem dj_0_1_2_3_4_5_6_7_8_9_10_11_12_13_14_15_16_17_18_19_20_21_22_23_24_25_26_27__28_29_30_31_32_33_34_35 : ∀ i ∈ ([28, 29, 30, 31, 32, 33, 34, 35] : List Nat), i ∉ ([0, 1, 2, 3, 4, 5, 6, 7, 8, 9, 10, 11, 12, 13, 14, 15, 16, 17, 18, 19, 20, 21, 22, 23, 24, 25, 26, 27] : List Nat) := by decide
theorem sm_30 {a0 a1 a2 a3 a4 a5 a6 a7 a8 a9 a10 a11 a12 a13 a14 a15 a16 a17 a18 a19 a20 a21 a22 a23 a24 a25 a26 a27 a28 a29 a30 : Nat × va_E} {l : va_W} : ([30] : List Nat).map (fun i => (a0 :: a1 :: a2 :: a3 :: a4 :: a5 :: a6 :: a7 :: a8 :: a9 :: a10 :: a11 :: a12 :: a13 :: a14 :: a15 :: a16 :: a17 :: a18 :: a19 :: a20 :: a21 :: a22 :: a23 :: a24 :: a25 :: a26 :: a27 :: a28 :: a29 :: a30 :: l : va_W)[i]?) = ([a30] : va_W).map some := rfl
theorem fm_30 {a0 a1 a2 a3 a4 a5 a6 a7 a8 a9 a10 a11 a12 a13 a14 a15 a16 a17 a18 a19 a20 a21 a22 a23 a24 a25 a26 a27 a28 a29 a30 : Nat × va_E} {l : va_W} : ([30] : List Nat).filterMap (fun i => (a0 :: a1 :: a2 :: a3 :: a4 :: a5 :: a6 :: a7 :: a8 :: a9 :: a10 :: a11 :: a12 :: a13 :: a14 :: a15 :: a16 :: a17 :: a18 :: a19 :: a20 :: a21 :: a22 :: a23 :: a24 :: a25 :: a26 :: a27 :: a28 :: a29 :: a30 :: l : va_W)[i]?) = ([a30] : va_W) := rfl
theorem nd_30 : va_nd [30] = true := by decide
theorem sm_33 {a0 a1 a2 a3 a4 a5 a6 a7 a8 a9 a10 a11 a12 a13 a14 a15 a16 a17 a18 a19 a20 a21 a22 a23 a24 a25 a26 a27 a28 a29 a30 a31 a32 a33 : Nat × va_E} {l : va_W} : ([33] : List Nat).map (fun i => (a0 :: a1 :: a2 :: a3 :: a4 :: a5 :: a6 :: a7 :: a8 :: a9 :: a10 :: a11 :: a12 :: a13 :: a14 :: a15 :: a16 :: a17 :: a18 :: a19 :: a20 :: a21 :: a22 :: a23 :: a24 :: a25 :: a26 :: a27 :: a28 :: a29 :: a30 :: a31 :: a32 :: a33 :: l : va_W)[i]?) = ([a33] : va_W).map some := rfl
theorem fm_33 {a0 a1 a2 a3 a4 a5 a6 a7 a8 a9 a10 a11 a12 a13 a14 a15 a16 a17 a18 a19 a20 a21 a22 a23 a24 a25 a26 a27 a28 a29 a30 a31 a32 a33 : Nat × va_E} {l : va_W} : ([33] : List Nat).filterMap (fun i => (a0 :: a1 :: a2 :: a3 :: a4 :: a5 :: a6 :: a7 :: a8 :: a9 :: a10 :: a11 :: a12 :: a13 :: a14 :: a15 :: a16 :: a17 :: a18 :: a19 :: a20 :: a21 :: a22 :: a23 :: a24 :: a25 :: a26 :: a27 :: a28 :: a29 :: a30 :: a31 :: a32 :: a33 :: l : va_W)[i]?) = ([a33] : va_W) := rfl
theorem nd_33 : va_nd [33] = true := by decide
theorem sm_34 {a0 a1 a2 a3 a4 a5 a6 a7 a8 a9 a10 a11 a12 a13 a14 a15 a16 a17 a18 a19 a20 a21 a22 a23 a24 a25 a26 a27 a28 a29 a30 a31 a32 a33 a34 : Nat × va_E} {l : va_W} : ([34] : List Nat).map (fun i => (a0 :: a1 :: a2 :: a3 :: a4 :: a5 :: a6 :: a7 :: a8 :: a9 :: a10 :: a11 :: a12 :: a13 :: a14 :: a15 :: a16 :: a17 :: a18 :: a19 :: a20 :: a21 :: a22 :: a23 :: a24 :: a25 :: a26 :: a27 :: a28 :: a29 :: a30 :: a31 :: a32 :: a33 :: a34 :: l : va_W)[i]?) = ([a34] : va_W).map some := rfl
theorem fm_34 {a0 a1 a2 a3 a4 a5 a6 a7 a8 a9 a10 a11 a12 a13 a14 a15 a16 a17 a18 a19 a20 a21 a22 a23 a24 a25 a26 a27 a28 a29 a30 a31 a32 a33 a34 : Nat × va_E} {l : va_W} : ([34] : List Nat).filterMap (fun i => (a0 :: a1 :: a2 :: a3 :: a4 :: a5 :: a6 :: a7 :: a8 :: a9 :: a10 :: a11 :: a12 :: a13 :: a14 :: a15 :: a16 :: a17 :: a18 :: a19 :: a20 :: a21 :: a22 :: a23 :: a24 :: a25 :: a26 :: a27 :: a28 :: a29 :: a30 :: a31 :: a32 :: a33 :: a34 :: l : va_W)[i]?) = ([a34] : va_W) := rfl
theorem nd_34 : va_nd [34] = true := by decide
theorem sm_35 {a0 a1 a2 a3 a4 a5 a6 a7 a8 a9 a10 a11 a12 a13 a14 a15 a16 a17 a18 a19 a20 a21 a22 a23 a24 a25 a26 a27 a28 a29 a30 a31 a32 a33 a34 a35 : Nat × va_E} {l : va_W} : ([35] : List Nat).map (fun i => (a0 :: a1 :: a2 :: a3 :: a4 :: a5 :: a6 :: a7 :: a8 :: a9 :: a10 :: a11 :: a12 :: a13 :: a14 :: a15 :: a16 :: a17 :: a18 :: a19 :: a20 :: a21 :: a22 :: a23 :: a24 :: a25 :: a26 :: a27 :: a28 :: a29 :: a30 :: a31 :: a32 :: a33 :: a34 :: a35 :: l : va_W)[i]?) = ([a35] : va_W).map some := rfl
theorem fm_35 {a0 a1 a2 a3 a4 a5 a6 a7 a8 a9 a10 a11 a12 a13 a14 a15 a16 a17 a18 a19 a20 a21 a22 a23 a24 a25 a26 a27 a28 a29 a30 a31 a32 a33 a34 a35 : Nat × va_E} {l : va_W} : ([35] : List Nat).filterMap (fun i => (a0 :: a1 :: a2 :: a3 :: a4 :: a5 :: a6 :: a7 :: a8 :: a9 :: a10 :: a11 :: a12 :: a13 :: a14 :: a15 :: a16 :: a17 :: a18 :: a19 :: a20 :: a21 :: a22 :: a23 :: a24 :: a25 :: a26 :: a27 :: a28 :: a29 :: a30 :: a31 :: a32 :: a33 :: a34 :: a35 :: l : va_W)[i]?) = ([a35] : va_W) := rfl
theorem nd_35 : va_nd [35] = true := by decide
def K_c_T_cut (l : Launch) (G : GG) (h0 : Nat) (n9 : Int32) (R : Nat) (W : Nat) (ca : Nat) (k : Nat) : Prop := MV l G yX8_cut cX8_cut 2 1 0 0 [.ref h0, .int n9] [(h0, oX8 (nI R) (nI W) ca (nI k))] (fun u : Nat => u ≤ k) (fun u : Nat => [(h0, oX8 (nI R) (nI W) ca (nI u))])
set_option maxHeartbeats 4000000 in
set_option maxRecDepth 100000 in
theorem c_T_cut (l : Launch) (G : GG) (h0 : Nat) (n9 : Int32) (R : Nat) (W : Nat) (ca : Nat) (k : Nat) (hk : k < 2 ^ 31) : K_c_T_cut l G h0 n9 R W ca k := by
  refine MV.start (by decide +kernel) (Nat.le_of_ble_eq_true rfl) ?_
  intro p e s m below meth c A ls hC hK hP hD hS hA hl
  refine absQ (fun Q0 hQ0 => ?_)
  have hl : lv_has ls 2 [(0, .ref h0), (1, .int n9)] := hl
  refine Kan8 hC (fun hx hb hr hml hB hown hlocks hnm => ?_)
  refine lv_iload_n hx hb gX8_cut_0.1 rfl (lv_at1 hl) ?_
  refine lv_if_lt (tgt := 17) hx hb gX8_cut_0.2.1 (by decide) (fun c_1_2438 => ?_) (fun c_1_2438 => ?_)
  · refine toQ hQ0 ?_
    exact RV hC hP hD hS [0] k rfl rfl (by decide) (by omega) gX8_cut_0.2.2.2.2.2.2.2.2.2
  · refine lv_iload_n hx hb gX8_cut_0.2.2.1 rfl (lv_at1 hl) ?_
    refine lv_aload_n hx hb gX8_cut_0.2.2.2.1 rfl (lv_at0 hl) ?_
    refine gf_X8_28 hC rfl hK hP 0 rfl rfl gX8_cut_0.2.2.2.2.1 ?_
    refine lv_icmp_ge (tgt := 17) hx hb gX8_cut_0.2.2.2.2.2.1 (by decide) (fun c_9_2439 => ?_) (fun c_9_2439 => ?_)
    · refine toQ hQ0 ?_
      exact RV hC hP hD hS [0] k rfl rfl (by decide) (by omega) gX8_cut_0.2.2.2.2.2.2.2.2.2
    · obtain ⟨jn, hjn, rfl⟩ := ltN (N := k) (by omega) c_1_2438 c_9_2439
      refine lv_aload_n hx hb gX8_cut_0.2.2.2.2.2.2.1 rfl (lv_at0 hl) ?_
      refine lv_iload_n hx hb gX8_cut_0.2.2.2.2.2.2.2.1 rfl (lv_at1 hl) ?_
      refine pf_X8_28 hC rfl hK hP hD hS 0 (ws' := [(h0, oX8 (nI R) (nI W) ca (nI jn))]) rfl (Nat.le_of_ble_eq_true rfl) rfl rfl rfl gX8_cut_0.2.2.2.2.2.2.2.2.1 (fun H locs hP hD hS => ?_)
      refine toQ hQ0 ?_
      exact RV hC hP hD hS [0] jn rfl rfl (by decide) (by omega) gX8_cut_0.2.2.2.2.2.2.2.2.2
def K_c_lengthOfX (l : Launch) (G : GG) (h0 : Nat) (jq : Nat) (bb : Nat) (rr : Nat) (tc : Nat) (asd : Int32) (st9 : Int32) (tol : Int32) (bpersons : Nat) (bpapers : Nat) (bstamps : Nat) (bversions : Nat) (blines : Nat) (bsteps : Nat) (bsayings : Nat) (bfindings : Nat) (bwarnings : Nat) (bquestions : Nat) (td : Int32) (vd : Int32) (vl : Int32) (gp : Int32) (bquestionsc : Nat) (kbquestions : Nat) (fbquestions : Nat → Int32) : Prop := MP l G yX5_lengthOf cX5_lengthOf 2 (some .int) 3 [.ref h0, .int (nI jq)] [(h0, oX5 bb rr tc asd st9 tol), (bb, oX0 bpersons bpapers bstamps bversions blines bsteps bsayings bfindings bwarnings bquestions td vd vl gp), (bquestions, oX8 7 2 bquestionsc (nI kbquestions)), (bquestionsc, iA G 14 fbquestions)] (fun r : Int32 => r = nI (DYQ fbquestions jq))
set_option maxHeartbeats 4000000 in
set_option maxRecDepth 100000 in
theorem c_lengthOfX (l : Launch) (G : GG) (ja : Nat) (h0 : Nat) (jq : Nat) (bb : Nat) (rr : Nat) (tc : Nat) (asd : Int32) (st9 : Int32) (tol : Int32) (bpersons : Nat) (bpapers : Nat) (bstamps : Nat) (bversions : Nat) (blines : Nat) (bsteps : Nat) (bsayings : Nat) (bfindings : Nat) (bwarnings : Nat) (bquestions : Nat) (td : Int32) (vd : Int32) (vl : Int32) (gp : Int32) (bquestionsc : Nat) (kbquestions : Nat) (fbquestions : Nat → Int32) (hkbquestions : kbquestions ≤ 7) (hQA : QAK fbquestions ja) (hba : ja.testBit jq = true) (hjq : jq < kbquestions) : K_c_lengthOfX l G h0 jq bb rr tc asd st9 tol bpersons bpapers bstamps bversions blines bsteps bsayings bfindings bwarnings bquestions td vd vl gp bquestionsc kbquestions fbquestions := by
  refine MP.start (by decide +kernel) (Nat.le_of_ble_eq_true rfl) ?_
  intro p e s m below meth c ls hC hK hP hD hl
  refine absQ (fun Q0 hQ0 => ?_)
  have hl : lv_has ls 2 [(0, .ref h0), (1, .int (nI jq))] := hl
  refine Kan8 hC (fun hx hb hr hml hB hown hlocks hnm => ?_)
  refine lv_aload_n hx hb gX5_lengthOf_0.1 rfl (lv_at0 hl) ?_
  refine gf_X5_24 hC rfl hK hP 0 rfl rfl gX5_lengthOf_0.2.1 ?_
  refine gf_X5_39 hC rfl hK hP 1 rfl rfl gX5_lengthOf_0.2.2.1 ?_
  refine lv_iload_n hx hb gX5_lengthOf_0.2.2.2.1 rfl (lv_at1 hl) ?_
  refine lv_iconst (v := 0) hx hb gX5_lengthOf_0.2.2.2.2.1 (by decide) ?_
  refine pV hC hK hl hP hD (c_T_at l G bquestions (nI jq) 0 7 2 bquestionsc kbquestions fbquestions (hkbquestions) (by omega) (by omega)) si_X5_44 [2, 3] sm_2_3 fm_2_3 nd_2_3 rfl rfl rfl rfl rfl (Nat.le_of_ble_eq_true rfl) rm_3_1_3 ⟨by first | exact Nat.le_of_ble_eq_true rfl | exact Nat.zero_le _, by first | exact Nat.le_of_ble_eq_true rfl | exact Nat.zero_le _⟩ gX5_lengthOf_0.2.2.2.2.2.1 (fun r2440 hr2440 => ?_)
  refine eqi (x1 := fbquestions (jq * 2 + 0)) (hr2440.trans (tatr (by omega) (by omega) (by decide) (by decide) rfl)) ?_
  refine toQ hQ0 ?_
  exact RP (v := fbquestions (jq * 2 + 0)) hC ((hQA.day (by omega) hba).1) rfl gX5_lengthOf_0.2.2.2.2.2.2
def K_c_costBehindX (l : Launch) (G : GG) (W9 : Nat → Nat) (h0 : Nat) (jo : Nat) (jq : Nat) (bb : Nat) (rr : Nat) (tc : Nat) (asd : Int32) (st9 : Int32) (tol : Int32) (ftc : Nat → Int32) (bpersons : Nat) (bpapers : Nat) (bstamps : Nat) (bversions : Nat) (blines : Nat) (bsteps : Nat) (bsayings : Nat) (bfindings : Nat) (bwarnings : Nat) (bquestions : Nat) (td : Int32) (vd : Int32) (vl : Int32) (gp : Int32) (bquestionsc : Nat) (kbquestions : Nat) (fbquestions : Nat → Int32) : Prop := MP l G yX5_costBehind cX5_costBehind 7 (some .int) 4 [.ref h0, .int (nI jo), .int (nI jq)] [(h0, oX5 bb rr tc asd st9 tol), (tc, iA G 128 ftc), (bb, oX0 bpersons bpapers bstamps bversions blines bsteps bsayings bfindings bwarnings bquestions td vd vl gp), (bquestions, oX8 7 2 bquestionsc (nI kbquestions)), (bquestionsc, iA G 14 fbquestions)] (fun r : Int32 => r = nI (FCN fbquestions W9 jo jq))
set_option maxHeartbeats 4000000 in
set_option maxRecDepth 100000 in
theorem c_costBehindX (l : Launch) (G : GG) (ja : Nat) (W9 : Nat → Nat) (h0 : Nat) (jo : Nat) (jq : Nat) (bb : Nat) (rr : Nat) (tc : Nat) (asd : Int32) (st9 : Int32) (tol : Int32) (ftc : Nat → Int32) (bpersons : Nat) (bpapers : Nat) (bstamps : Nat) (bversions : Nat) (blines : Nat) (bsteps : Nat) (bsayings : Nat) (bfindings : Nat) (bwarnings : Nat) (bquestions : Nat) (td : Int32) (vd : Int32) (vl : Int32) (gp : Int32) (bquestionsc : Nat) (kbquestions : Nat) (fbquestions : Nat → Int32) (hkbquestions : kbquestions ≤ 7) (hQA : QAK fbquestions ja) (hHQ : HQA ja kbquestions) (hSU : SUB jo ja) (hbq : ja.testBit jq = true) (hnq : jo.testBit jq = false) (htw : ftc (jo ||| 2 ^ jq) = nI (W9 (jo ||| 2 ^ jq))) (hjo : jo < 128) (hjq : jq < kbquestions) : K_c_costBehindX l G W9 h0 jo jq bb rr tc asd st9 tol ftc bpersons bpapers bstamps bversions blines bsteps bsayings bfindings bwarnings bquestions td vd vl gp bquestionsc kbquestions fbquestions := by
  refine MP.start (by decide +kernel) (Nat.le_of_ble_eq_true rfl) ?_
  intro p e s m below meth c ls hC hK hP hD hl
  refine absQ (fun Q0 hQ0 => ?_)
  have hl : lv_has ls 7 [(0, .ref h0), (1, .int (nI jo)), (2, .int (nI jq))] := hl
  refine Kan8 hC (fun hx hb hr hml hB hown hlocks hnm => ?_)
  have hor9 := (st_or (o := jo) (q := jq) (by omega) (by omega)).2.1
  have hwi9 : Wi (nI (jo ||| 2 ^ jq)) 0 127 := Wi_in hor9
  refine lv_aload_n hx hb gX5_costBehind_0.1 rfl (lv_at0 hl) ?_
  refine lv_iload_n hx hb gX5_costBehind_0.2.1 rfl (lv_at2 hl) ?_
  refine pV hC hK hl hP hD (c_lengthOfX l G ja h0 jq bb rr tc asd st9 tol bpersons bpapers bstamps bversions blines bsteps bsayings bfindings bwarnings bquestions td vd vl gp bquestionsc kbquestions fbquestions (hkbquestions) (hQA) (hbq) (hjq)) si_X5_61 [0, 2, 3, 4] sm_0_2_3_4 fm_0_2_3_4 nd_0_2_3_4 rfl rfl rfl rfl rfl (Nat.le_of_ble_eq_true rfl) rm_4_3_2 ⟨by first | exact Nat.le_of_ble_eq_true rfl | exact Nat.zero_le _, by first | exact Nat.le_of_ble_eq_true rfl | exact Nat.zero_le _⟩ gX5_costBehind_0.2.2.1 (Keqr ?_)
  refine lv_istore_n (lv' := [(3, .int (nI (DYQ fbquestions jq))), (0, .ref h0), (1, .int (nI jo)), (2, .int (nI jq))]) hx hb gX5_costBehind_0.2.2.2.1 rfl hl (by decide) rfl (fun ls hl => ?_)
  refine lv_iconst (v := 0) hx hb gX5_costBehind_0.2.2.2.2.1 (by decide) ?_
  refine lv_istore (lv' := [(4, .int 0), (3, .int (nI (DYQ fbquestions jq))), (0, .ref h0), (1, .int (nI jo)), (2, .int (nI jq))]) hx hb gX5_costBehind_0.2.2.2.2.2.1 hl (by decide) rfl (fun ls hl => ?_)
  refine lv_iload_n hx hb gX5_costBehind_0.2.2.2.2.2.2.1 rfl (lv_at3 hl) ?_
  refine lv_iconst (v := 1) hx hb gX5_costBehind_0.2.2.2.2.2.2.2.1 (by decide) ?_
  refine lv_iload_n hx hb gX5_costBehind_0.2.2.2.2.2.2.2.2.1 rfl (lv_at4 hl) ?_
  refine lv_ishl hx hb gX5_costBehind_0.2.2.2.2.2.2.2.2.2 ?_
  refine lv_ior hx hb gX5_costBehind_1.1 ?_
  refine eqi (x1 := nI (jo ||| 2 ^ jq)) ((st_or (by omega) (by omega)).1) ?_
  refine lv_istore (lv' := [(5, .int (nI (jo ||| 2 ^ jq))), (4, .int 0), (3, .int (nI (DYQ fbquestions jq))), (0, .ref h0), (1, .int (nI jo)), (2, .int (nI jq))]) hx hb gX5_costBehind_1.2.1 hl (by decide) rfl (fun ls hl => ?_)
  refine lv_iconst (v := 0) hx hb gX5_costBehind_1.2.2.1 (by decide) ?_
  refine lv_istore (lv' := [(6, .int 0), (5, .int (nI (jo ||| 2 ^ jq))), (4, .int 0), (3, .int (nI (DYQ fbquestions jq))), (0, .ref h0), (1, .int (nI jo)), (2, .int (nI jq))]) hx hb gX5_costBehind_1.2.2.2.1 hl (by decide) rfl (fun ls hl => ?_)
  have keyP : ∀ (nP kP : Nat) (le : Int32) (cl : Int32) (ls : Array Slot), kP + nP = 7 → (le = nI (DYQ fbquestions jq + LNGQ fbquestions jo kP)) → (cl = CLQ fbquestions jo kP) → lv_has ls 7 [(6, .int (nI kP)), (5, .int (nI (jo ||| 2 ^ jq))), (4, .int cl), (3, .int le), (0, .ref h0), (1, .int (nI jo)), (2, .int (nI jq))] → W p l e (RM 4 0 0) s m ([.ref h0, .int (nI jo), .int (nI jq)] : List Value).toArray below meth c s.heap [] 0 0 Q0 (F0 m 19 ls []) := by
    intro nP
    induction nP with
    | zero =>
      intro kP le cl ls hkP hle hcl hl
      obtain rfl : 7 = kP := by omega
      have hl : lv_has ls 7 [(6, .int 7), (5, .int (nI (jo ||| 2 ^ jq))), (4, .int cl), (3, .int le), (0, .ref h0), (1, .int (nI jo)), (2, .int (nI jq))] := hl
      refine lv_iload hx hb gX5_costBehind_1.2.2.2.2.1 (lv_at0 hl) ?_
      refine lv_bipush (v := 7) hx hb gX5_costBehind_1.2.2.2.2.2.1 (by decide) ?_
      refine lv_icmp_ge (tgt := 71) hx hb gX5_costBehind_1.2.2.2.2.2.2.1 (by decide) (fun _ => ?_) (fun c9 => absurd (by decide) c9)
      refine lv_aload_n hx hb gX5_costBehind_3.2.2.2.2.2.2.2.2.2 rfl (lv_at4 hl) ?_
      refine gf_X5_24 hC rfl hK hP 0 rfl rfl gX5_costBehind_4.1 ?_
      refine gf_X5_39 hC rfl hK hP 2 rfl rfl gX5_costBehind_4.2.1 ?_
      refine lv_iload_n hx hb gX5_costBehind_4.2.2.1 rfl (lv_at6 hl) ?_
      refine lv_iconst (v := 1) hx hb gX5_costBehind_4.2.2.2.1 (by decide) ?_
      refine pV hC hK hl hP hD (c_T_at l G bquestions (nI jq) 1 7 2 bquestionsc kbquestions fbquestions (hkbquestions) (by omega) (by omega)) si_X5_44 [3, 4] sm_3_4 fm_3_4 nd_3_4 rfl rfl rfl rfl rfl (Nat.le_of_ble_eq_true rfl) rm_4_1_3 ⟨by first | exact Nat.le_of_ble_eq_true rfl | exact Nat.zero_le _, by first | exact Nat.le_of_ble_eq_true rfl | exact Nat.zero_le _⟩ gX5_costBehind_4.2.2.2.2.1 (fun r2444 hr2444 => ?_)
      refine eqi (x1 := fbquestions (jq * 2 + 1)) (hr2444.trans (tatr (by omega) (by omega) (by decide) (by decide) rfl)) ?_
      refine lv_iload hx hb gX5_costBehind_4.2.2.2.2.2.1 (lv_at2 hl) ?_
      refine lv_iconst (v := (-1)) hx hb gX5_costBehind_4.2.2.2.2.2.2.1 (by decide) ?_
      refine lv_ixor hx hb gX5_costBehind_4.2.2.2.2.2.2.2.1 ?_
      refine lv_iand hx hb gX5_costBehind_4.2.2.2.2.2.2.2.2.1 ?_
      refine pS hC hK hl (c_bitCountX l G ((fbquestions (jq * 2 + 1)) &&& (cl ^^^ (-1)))) si_X5_68 rfl rfl (Nat.le_of_ble_eq_true rfl) rm_4_1_1 ⟨by first | exact Nat.le_of_ble_eq_true rfl | exact Nat.zero_le _, by first | exact Nat.le_of_ble_eq_true rfl | exact Nat.zero_le _⟩ gX5_costBehind_4.2.2.2.2.2.2.2.2.2 (Keqr ?_)
      refine eqi (x1 := nI (BQN (CTQ fbquestions jo jq))) (by rw [hcl]; exact CTQ.bc hQA (by omega) hbq) ?_
      refine lv_istore (lv' := [(6, .int (nI (BQN (CTQ fbquestions jo jq)))), (5, .int (nI (jo ||| 2 ^ jq))), (4, .int cl), (3, .int le), (0, .ref h0), (1, .int (nI jo)), (2, .int (nI jq))]) hx hb gX5_costBehind_5.1 hl (by decide) rfl (fun ls hl => ?_)
      refine lv_iload_n hx hb gX5_costBehind_5.2.1 rfl (lv_at3 hl) ?_
      refine lv_iload hx hb gX5_costBehind_5.2.2.1 (lv_at0 hl) ?_
      refine lv_imul hx hb gX5_costBehind_5.2.2.2.1 ?_
      refine eqi (x1 := nI ((LNGQ fbquestions jo 7 + DYQ fbquestions jq) * BQN (CTQ fbquestions jo jq))) (by rw [hle, nI_mul, Nat.add_comm (DYQ fbquestions jq)]) ?_
      refine lv_iload hx hb gX5_costBehind_5.2.2.2.2.1 (lv_at1 hl) ?_
      refine lv_iconst (v := 0) hx hb gX5_costBehind_5.2.2.2.2.2.1 (by decide) ?_
      refine lv_aload_n hx hb gX5_costBehind_5.2.2.2.2.2.2.1 rfl (lv_at4 hl) ?_
      refine gf_X5_20 hC rfl hK hP 0 rfl rfl gX5_costBehind_5.2.2.2.2.2.2.2.1 ?_
      refine va_alen (v := 128) hx hb hK.1 hP 1 0 rfl rfl (show Int32.ofNat 128 = 128 by decide) gX5_costBehind_5.2.2.2.2.2.2.2.2.1 ?_
      refine lv_iconst (v := 1) hx hb gX5_costBehind_5.2.2.2.2.2.2.2.2.2 (by decide) ?_
      refine lv_isub hx hb gX5_costBehind_6.1 ?_
      refine eqi (x1 := 127) (by decide) ?_
      refine pSN hC hK hl (c_within l G (nI (jo ||| 2 ^ jq)) 0 127) si_X5_73 rfl rfl (Nat.le_of_ble_eq_true rfl) rm_4_1_3 ⟨by first | exact Nat.le_of_ble_eq_true rfl | exact Nat.zero_le _, by first | exact Nat.le_of_ble_eq_true rfl | exact Nat.zero_le _⟩ gX5_costBehind_6.2.1 (Kors (Keqa fun a2449 => ?_) (Keqa fun a2449 => ?_))
      · refine lv_if_eq (tgt := 123) hx hb gX5_costBehind_6.2.2.1 (by decide) (fun c9 => absurd c9 (by decide)) (fun _ => ?_)
        refine lv_aload_n hx hb gX5_costBehind_6.2.2.2.1 rfl (lv_at4 hl) ?_
        refine gf_X5_20 hC rfl hK hP 0 rfl rfl gX5_costBehind_6.2.2.2.2.1 ?_
        refine lv_iload hx hb gX5_costBehind_6.2.2.2.2.2.1 (lv_at1 hl) ?_
        refine aldN hC hK hP 1 rfl (k := (jo ||| 2 ^ jq)) (by omega) (Nat.le_of_ble_eq_true rfl) (v := ftc (jo ||| 2 ^ jq)) rfl gX5_costBehind_6.2.2.2.2.2.2.1 ?_
        refine eqi (x1 := nI (W9 (jo ||| 2 ^ jq))) htw ?_
        refine lv_goto (tgt := 124) hx hb gX5_costBehind_6.2.2.2.2.2.2.2.1 (by decide) ?_
        refine lv_iadd hx hb gX5_costBehind_6.2.2.2.2.2.2.2.2.2 ?_
        refine eqi (x1 := nI ((LNGQ fbquestions jo 7 + DYQ fbquestions jq) * BQN (CTQ fbquestions jo jq) + (W9 (jo ||| 2 ^ jq)))) (nI_add ((LNGQ fbquestions jo 7 + DYQ fbquestions jq) * BQN (CTQ fbquestions jo jq)) (W9 (jo ||| 2 ^ jq))) ?_
        refine toQ hQ0 ?_
        exact RP (v := nI ((LNGQ fbquestions jo 7 + DYQ fbquestions jq) * BQN (CTQ fbquestions jo jq) + (W9 (jo ||| 2 ^ jq)))) hC (rfl) rfl gX5_costBehind_7
      · exact absurd hwi9 a2449
    | succ nP ihP =>
      intro kP le cl ls hkP hle hcl hl
      refine lv_iload hx hb gX5_costBehind_1.2.2.2.2.1 (lv_at0 hl) ?_
      refine lv_bipush (v := 7) hx hb gX5_costBehind_1.2.2.2.2.2.1 (by decide) ?_
      refine lv_icmp_ge (tgt := 71) hx hb gX5_costBehind_1.2.2.2.2.2.2.1 (by decide) (fun c9 => absurd c9 (nI_ge (a := kP) (b := 7) (by omega) (by omega))) (fun _ => ?_)
      refine lv_iload_n hx hb gX5_costBehind_1.2.2.2.2.2.2.2.1 rfl (lv_at5 hl) ?_
      refine lv_iload hx hb gX5_costBehind_1.2.2.2.2.2.2.2.2.1 (lv_at0 hl) ?_
      refine pSN hC hK hl (c_hasBit l G (nI jo) (nI kP)) si_X5_64 rfl rfl (Nat.le_of_ble_eq_true rfl) rm_4_1_2 ⟨by first | exact Nat.le_of_ble_eq_true rfl | exact Nat.zero_le _, by first | exact Nat.le_of_ble_eq_true rfl | exact Nat.zero_le _⟩ gX5_costBehind_1.2.2.2.2.2.2.2.2.2 (Kors (Keqa fun a2451 => ?_) (Keqa fun a2451 => ?_))
      · refine lv_if_ne (tgt := 38) hx hb gX5_costBehind_2.1 (by decide) (fun _ => ?_) (fun c9 => absurd c9 (by decide))
        have hbt9 : jo.testBit kP = true := (HB.tb (by omega) (by omega)).mp a2451
        have hba9 : ja.testBit kP = true := hSU kP (by omega) hbt9
        have hkq9 : kP < kbquestions := hHQ kP (by omega) hba9
        refine lv_iload_n hx hb gX5_costBehind_2.2.2.1 rfl (lv_at3 hl) ?_
        refine lv_aload_n hx hb gX5_costBehind_2.2.2.2.1 rfl (lv_at4 hl) ?_
        refine lv_iload hx hb gX5_costBehind_2.2.2.2.2.1 (lv_at0 hl) ?_
        refine pV hC hK hl hP hD (c_lengthOfX l G ja h0 kP bb rr tc asd st9 tol bpersons bpapers bstamps bversions blines bsteps bsayings bfindings bwarnings bquestions td vd vl gp bquestionsc kbquestions fbquestions (hkbquestions) (hQA) (hba9) (by omega)) si_X5_61 [0, 2, 3, 4] sm_0_2_3_4 fm_0_2_3_4 nd_0_2_3_4 rfl rfl rfl rfl rfl (Nat.le_of_ble_eq_true rfl) rm_4_3_2 ⟨by first | exact Nat.le_of_ble_eq_true rfl | exact Nat.zero_le _, by first | exact Nat.le_of_ble_eq_true rfl | exact Nat.zero_le _⟩ gX5_costBehind_2.2.2.2.2.2.1 (Keqr ?_)
        refine lv_iadd hx hb gX5_costBehind_2.2.2.2.2.2.2.1 ?_
        refine lv_istore_n (lv' := [(3, .int (le + (nI (DYQ fbquestions kP)))), (6, .int (nI kP)), (5, .int (nI (jo ||| 2 ^ jq))), (4, .int cl), (0, .ref h0), (1, .int (nI jo)), (2, .int (nI jq))]) hx hb gX5_costBehind_2.2.2.2.2.2.2.2.1 rfl hl (by decide) rfl (fun ls hl => ?_)
        refine lv_iload hx hb gX5_costBehind_2.2.2.2.2.2.2.2.2.1 (lv_at3 hl) ?_
        refine lv_aload_n hx hb gX5_costBehind_2.2.2.2.2.2.2.2.2.2 rfl (lv_at4 hl) ?_
        refine gf_X5_24 hC rfl hK hP 0 rfl rfl gX5_costBehind_3.1 ?_
        refine gf_X5_39 hC rfl hK hP 2 rfl rfl gX5_costBehind_3.2.1 ?_
        refine lv_iload hx hb gX5_costBehind_3.2.2.1 (lv_at1 hl) ?_
        refine lv_iconst (v := 1) hx hb gX5_costBehind_3.2.2.2.1 (by decide) ?_
        refine pV hC hK hl hP hD (c_T_at l G bquestions (nI kP) 1 7 2 bquestionsc kbquestions fbquestions (hkbquestions) (by omega) (by omega)) si_X5_44 [3, 4] sm_3_4 fm_3_4 nd_3_4 rfl rfl rfl rfl rfl (Nat.le_of_ble_eq_true rfl) rm_4_1_3 ⟨by first | exact Nat.le_of_ble_eq_true rfl | exact Nat.zero_le _, by first | exact Nat.le_of_ble_eq_true rfl | exact Nat.zero_le _⟩ gX5_costBehind_3.2.2.2.2.1 (fun r2454 hr2454 => ?_)
        refine eqi (x1 := fbquestions (kP * 2 + 1)) (hr2454.trans (tatr (by omega) (by omega) (by decide) (by decide) rfl)) ?_
        refine lv_ior hx hb gX5_costBehind_3.2.2.2.2.2.1 ?_
        refine lv_istore (lv' := [(4, .int (cl ||| (fbquestions (kP * 2 + 1)))), (3, .int (le + (nI (DYQ fbquestions kP)))), (6, .int (nI kP)), (5, .int (nI (jo ||| 2 ^ jq))), (0, .ref h0), (1, .int (nI jo)), (2, .int (nI jq))]) hx hb gX5_costBehind_3.2.2.2.2.2.2.1 hl (by decide) rfl (fun ls hl => ?_)
        refine lv_iinc (v := nI (kP + 1)) (lv' := [(6, .int (nI (kP + 1))), (4, .int (cl ||| (fbquestions (kP * 2 + 1)))), (3, .int (le + (nI (DYQ fbquestions kP)))), (5, .int (nI (jo ||| 2 ^ jq))), (0, .ref h0), (1, .int (nI jo)), (2, .int (nI jq))]) hx hb gX5_costBehind_3.2.2.2.2.2.2.2.1 hl (k := 2) rfl (nI_1 _) (by decide) rfl (fun ls hl => ?_)
        refine lv_goto (tgt := 19) hx hb gX5_costBehind_3.2.2.2.2.2.2.2.2.1 (by decide) ?_
        have hst8 : le + (nI (DYQ fbquestions kP)) = nI (DYQ fbquestions jq + LNGQ fbquestions jo (kP + 1)) := LNGQ.y hle hbt9
        have hst9 : cl ||| (fbquestions (kP * 2 + 1)) = CLQ fbquestions jo (kP + 1) := CLQ.y hcl hbt9
        exact ihP (kP + 1) (le + (nI (DYQ fbquestions kP))) (cl ||| (fbquestions (kP * 2 + 1))) _ (by omega) (by first | assumption | exact Or.inl rfl | exact Or.inr rfl | exact rfl) (by first | assumption | exact Or.inl rfl | exact Or.inr rfl | exact rfl) (lv_sub hl [0, 3, 1, 2, 4, 5, 6] rfl)
      · refine lv_if_ne (tgt := 38) hx hb gX5_costBehind_2.1 (by decide) (fun c9 => absurd (by decide) c9) (fun _ => ?_)
        refine lv_goto (tgt := 65) hx hb gX5_costBehind_2.2.1 (by decide) ?_
        refine lv_iinc (v := nI (kP + 1)) (lv' := [(6, .int (nI (kP + 1))), (5, .int (nI (jo ||| 2 ^ jq))), (4, .int cl), (3, .int le), (0, .ref h0), (1, .int (nI jo)), (2, .int (nI jq))]) hx hb gX5_costBehind_3.2.2.2.2.2.2.2.1 hl (k := 0) rfl (nI_1 _) (by decide) rfl (fun ls hl => ?_)
        refine lv_goto (tgt := 19) hx hb gX5_costBehind_3.2.2.2.2.2.2.2.2.1 (by decide) ?_
        have hst8 : le = nI (DYQ fbquestions jq + LNGQ fbquestions jo (kP + 1)) := LNGQ.n hle (fun h9 => a2451 ((HB.tb (by omega) (by omega)).mpr h9))
        have hst9 : cl = CLQ fbquestions jo (kP + 1) := CLQ.n hcl (fun h9 => a2451 ((HB.tb (by omega) (by omega)).mpr h9))
        exact ihP (kP + 1) le cl _ (by omega) (by first | assumption | exact Or.inl rfl | exact Or.inr rfl | exact rfl) (by first | assumption | exact Or.inl rfl | exact Or.inr rfl | exact rfl) (lv_sub hl [0, 1, 2, 3, 4, 5, 6] rfl)
  exact keyP 7 0 (nI (DYQ fbquestions jq)) 0 _ (by omega) (by first | assumption | exact Or.inl rfl | exact Or.inr rfl | exact rfl) (by first | assumption | exact Or.inl rfl | exact Or.inr rfl | exact rfl) (lv_sub hl [0, 1, 2, 3, 4, 5, 6] rfl)
def K_c_nextBehindX (l : Launch) (G : GG) (N9 : Nat → Nat) (h0 : Nat) (jo : Nat) (bb : Nat) (rr : Nat) (tc : Nat) (ja : Nat) (st9 : Int32) (tol : Int32) (ftc : Nat → Int32) (bpersons : Nat) (bpapers : Nat) (bstamps : Nat) (bversions : Nat) (blines : Nat) (bsteps : Nat) (bsayings : Nat) (bfindings : Nat) (bwarnings : Nat) (bquestions : Nat) (td : Int32) (vd : Int32) (vl : Int32) (gp : Int32) (bquestionsc : Nat) (kbquestions : Nat) (fbquestions : Nat → Int32) : Prop := MP l G yX5_nextBehind cX5_nextBehind 6 (some .int) 5 [.ref h0, .int (nI jo)] [(h0, oX5 bb rr tc (nI ja) st9 tol), (tc, iA G 128 ftc), (bb, oX0 bpersons bpapers bstamps bversions blines bsteps bsayings bfindings bwarnings bquestions td vd vl gp), (bquestions, oX8 7 2 bquestionsc (nI kbquestions)), (bquestionsc, iA G 14 fbquestions)] (fun r : Int32 => r = nI (N9 jo))
set_option maxHeartbeats 4000000 in
set_option maxRecDepth 100000 in
theorem c_nextBehindX (l : Launch) (G : GG) (W9 : Nat → Nat) (N9 : Nat → Nat) (h0 : Nat) (jo : Nat) (bb : Nat) (rr : Nat) (tc : Nat) (ja : Nat) (st9 : Int32) (tol : Int32) (ftc : Nat → Int32) (bpersons : Nat) (bpapers : Nat) (bstamps : Nat) (bversions : Nat) (blines : Nat) (bsteps : Nat) (bsayings : Nat) (bfindings : Nat) (bwarnings : Nat) (bquestions : Nat) (td : Int32) (vd : Int32) (vl : Int32) (gp : Int32) (bquestionsc : Nat) (kbquestions : Nat) (fbquestions : Nat → Int32) (hkbquestions : kbquestions ≤ 7) (hQA : QAK fbquestions ja) (hHQ : HQA ja kbquestions) (hBL : BELL fbquestions ja W9 N9) (hSU : SUB jo ja) (hne : ¬ jo = ja) (hTC : TCI W9 ja (jo + 1) ftc) (hjo : jo < 128) (hja : ja < 128) : K_c_nextBehindX l G N9 h0 jo bb rr tc ja st9 tol ftc bpersons bpapers bstamps bversions blines bsteps bsayings bfindings bwarnings bquestions td vd vl gp bquestionsc kbquestions fbquestions := by
  refine MP.start (by decide +kernel) (Nat.le_of_ble_eq_true rfl) ?_
  intro p e s m below meth c ls hC hK hP hD hl
  refine absQ (fun Q0 hQ0 => ?_)
  have hl : lv_has ls 6 [(0, .ref h0), (1, .int (nI jo))] := hl
  refine Kan8 hC (fun hx hb hr hml hB hown hlocks hnm => ?_)
  refine lv_iconst (v := 0) hx hb gX5_nextBehind_0.1 (by decide) ?_
  refine lv_istore_n (lv' := [(2, .int 0), (0, .ref h0), (1, .int (nI jo))]) hx hb gX5_nextBehind_0.2.1 rfl hl (by decide) rfl (fun ls hl => ?_)
  refine lv_ldc hx hb hown (hB _ m_843) gX5_nextBehind_0.2.2.1 ?_
  refine lv_istore_n (lv' := [(3, .int 1000000), (2, .int 0), (0, .ref h0), (1, .int (nI jo))]) hx hb gX5_nextBehind_0.2.2.2.1 rfl hl (by decide) rfl (fun ls hl => ?_)
  refine lv_iconst (v := 0) hx hb gX5_nextBehind_0.2.2.2.2.1 (by decide) ?_
  refine lv_istore (lv' := [(4, .int 0), (3, .int 1000000), (2, .int 0), (0, .ref h0), (1, .int (nI jo))]) hx hb gX5_nextBehind_0.2.2.2.2.2.1 hl (by decide) rfl (fun ls hl => ?_)
  have keyP : ∀ (nP kP : Nat) (nx : Int32) (le : Int32) (ls : Array Slot), kP + nP = 7 → (NBI fbquestions W9 ja jo nx le kP) → lv_has ls 6 [(4, .int (nI kP)), (3, .int le), (2, .int nx), (0, .ref h0), (1, .int (nI jo))] → W p l e (RM 5 0 0) s m ([.ref h0, .int (nI jo)] : List Value).toArray below meth c s.heap [] 0 0 Q0 (F0 m 8 ls []) := by
    intro nP
    induction nP with
    | zero =>
      intro kP nx le ls hkP hnb hl
      obtain rfl : 7 = kP := by omega
      have hl : lv_has ls 6 [(4, .int 7), (3, .int le), (2, .int nx), (0, .ref h0), (1, .int (nI jo))] := hl
      refine lv_iload hx hb gX5_nextBehind_0.2.2.2.2.2.2.1 (lv_at0 hl) ?_
      refine lv_bipush (v := 7) hx hb gX5_nextBehind_0.2.2.2.2.2.2.2.1 (by decide) ?_
      refine lv_icmp_ge (tgt := 64) hx hb gX5_nextBehind_0.2.2.2.2.2.2.2.2.1 (by decide) (fun _ => ?_) (fun c9 => absurd (by decide) c9)
      refine lv_iload_n hx hb gX5_nextBehind_3.2.2.2.2.1 rfl (lv_at2 hl) ?_
      refine toQ hQ0 ?_
      exact RP (v := nx) hC (hnb.fin hBL (by omega) (by omega) hSU hne) rfl gX5_nextBehind_3.2.2.2.2.2
    | succ nP ihP =>
      intro kP nx le ls hkP hnb hl
      refine lv_iload hx hb gX5_nextBehind_0.2.2.2.2.2.2.1 (lv_at0 hl) ?_
      refine lv_bipush (v := 7) hx hb gX5_nextBehind_0.2.2.2.2.2.2.2.1 (by decide) ?_
      refine lv_icmp_ge (tgt := 64) hx hb gX5_nextBehind_0.2.2.2.2.2.2.2.2.1 (by decide) (fun c9 => absurd c9 (nI_ge (a := kP) (b := 7) (by omega) (by omega))) (fun _ => ?_)
      refine lv_aload_n hx hb gX5_nextBehind_0.2.2.2.2.2.2.2.2.2 rfl (lv_at3 hl) ?_
      refine gf_X5_28 hC rfl hK hP 0 rfl rfl gX5_nextBehind_1.1 ?_
      refine lv_iload_n hx hb gX5_nextBehind_1.2.1 rfl (lv_at4 hl) ?_
      refine lv_iconst (v := (-1)) hx hb gX5_nextBehind_1.2.2.1 (by decide) ?_
      refine lv_ixor hx hb gX5_nextBehind_1.2.2.2.1 ?_
      refine lv_iand hx hb gX5_nextBehind_1.2.2.2.2.1 ?_
      refine eqi (x1 := nI (SMI ja jo)) (SMI.eq) ?_
      refine lv_iload hx hb gX5_nextBehind_1.2.2.2.2.2.1 (lv_at0 hl) ?_
      refine pSN hC hK hl (c_hasBit l G (nI (SMI ja jo)) (nI kP)) si_X5_64 rfl rfl (Nat.le_of_ble_eq_true rfl) rm_5_1_2 ⟨by first | exact Nat.le_of_ble_eq_true rfl | exact Nat.zero_le _, by first | exact Nat.le_of_ble_eq_true rfl | exact Nat.zero_le _⟩ gX5_nextBehind_1.2.2.2.2.2.2.1 (Kors (Keqa fun a2457 => ?_) (Keqa fun a2457 => ?_))
      · refine lv_if_ne (tgt := 34) hx hb gX5_nextBehind_1.2.2.2.2.2.2.2.1 (by decide) (fun _ => ?_) (fun c9 => absurd c9 (by decide))
        have hcd9 : CND ja jo kP := (SMI.cnd (by omega)).mp ((HB.tb (SMI.lt (by omega)) (by omega)).mp a2457)
        have hba9 : ja.testBit kP = true := hcd9.1
        have hbn9 : jo.testBit kP = false := hcd9.2
        have hkq9 : kP < kbquestions := hHQ kP (by omega) hba9
        have htw9 : ftc (jo ||| 2 ^ kP) = nI (W9 (jo ||| 2 ^ kP)) := TCI.or hTC (by omega) (by omega) hSU hba9 hbn9
        refine lv_aload_n hx hb gX5_nextBehind_1.2.2.2.2.2.2.2.2.2 rfl (lv_at3 hl) ?_
        refine lv_iload_n hx hb gX5_nextBehind_2.1 rfl (lv_at4 hl) ?_
        refine lv_iload hx hb gX5_nextBehind_2.2.1 (lv_at0 hl) ?_
        refine pV hC hK hl hP hD (c_costBehindX l G ja W9 h0 jo kP bb rr tc (nI ja) st9 tol ftc bpersons bpapers bstamps bversions blines bsteps bsayings bfindings bwarnings bquestions td vd vl gp bquestionsc kbquestions fbquestions (hkbquestions) (hQA) (hHQ) (hSU) (hba9) (hbn9) (htw9) (hjo) (by omega)) si_X5_55 [0, 1, 2, 3, 4] sm_0_1_2_3_4 fm_0_1_2_3_4 nd_0_1_2_3_4 rfl rfl rfl rfl rfl (Nat.le_of_ble_eq_true rfl) rm_5_4_7 ⟨by first | exact Nat.le_of_ble_eq_true rfl | exact Nat.zero_le _, by first | exact Nat.le_of_ble_eq_true rfl | exact Nat.zero_le _⟩ gX5_nextBehind_2.2.2.1 (Keqr ?_)
        refine lv_istore (lv' := [(5, .int (nI (FCN fbquestions W9 jo kP))), (4, .int (nI kP)), (3, .int le), (2, .int nx), (0, .ref h0), (1, .int (nI jo))]) hx hb gX5_nextBehind_2.2.2.2.1 hl (by decide) rfl (fun ls hl => ?_)
        refine lv_iload hx hb gX5_nextBehind_2.2.2.2.2.1 (lv_at0 hl) ?_
        refine lv_iload_n hx hb gX5_nextBehind_2.2.2.2.2.2.1 rfl (lv_at2 hl) ?_
        refine lv_icmp_lt (tgt := 52) hx hb gX5_nextBehind_2.2.2.2.2.2.2.1 (by decide) (fun c_46_2460 => ?_) (fun c_46_2460 => ?_)
        · refine lv_iload hx hb gX5_nextBehind_2.2.2.2.2.2.2.2.2.1 (lv_at0 hl) ?_
          refine lv_istore_n (lv' := [(3, .int (nI (FCN fbquestions W9 jo kP))), (5, .int (nI (FCN fbquestions W9 jo kP))), (4, .int (nI kP)), (2, .int nx), (0, .ref h0), (1, .int (nI jo))]) hx hb gX5_nextBehind_2.2.2.2.2.2.2.2.2.2 rfl hl (by decide) rfl (fun ls hl => ?_)
          refine lv_iload hx hb gX5_nextBehind_3.1 (lv_at2 hl) ?_
          refine lv_istore_n (lv' := [(2, .int (nI kP)), (3, .int (nI (FCN fbquestions W9 jo kP))), (5, .int (nI (FCN fbquestions W9 jo kP))), (4, .int (nI kP)), (0, .ref h0), (1, .int (nI jo))]) hx hb gX5_nextBehind_3.2.1 rfl hl (by decide) rfl (fun ls hl => ?_)
          refine lv_iinc (v := nI (kP + 1)) (lv' := [(4, .int (nI (kP + 1))), (2, .int (nI kP)), (3, .int (nI (FCN fbquestions W9 jo kP))), (5, .int (nI (FCN fbquestions W9 jo kP))), (0, .ref h0), (1, .int (nI jo))]) hx hb gX5_nextBehind_3.2.2.1 hl (k := 3) rfl (nI_1 _) (by decide) rfl (fun ls hl => ?_)
          refine lv_goto (tgt := 8) hx hb gX5_nextBehind_3.2.2.2.1 (by decide) ?_
          have hst9 : NBI fbquestions W9 ja jo (nI kP) (nI (FCN fbquestions W9 jo kP)) (kP + 1) := hnb.new (fun q9 h8 h9 => FCN.le hBL hQA (by omega) hSU h8 h9) (by omega) hcd9 c_46_2460
          exact ihP (kP + 1) (nI kP) (nI (FCN fbquestions W9 jo kP)) _ (by omega) (by first | assumption | exact Or.inl rfl | exact Or.inr rfl | exact NBI.zero) (lv_sub hl [0, 2, 1, 4, 5] rfl)
        · refine lv_goto (tgt := 58) hx hb gX5_nextBehind_2.2.2.2.2.2.2.2.1 (by decide) ?_
          refine lv_iinc (v := nI (kP + 1)) (lv' := [(4, .int (nI (kP + 1))), (5, .int (nI (FCN fbquestions W9 jo kP))), (3, .int le), (2, .int nx), (0, .ref h0), (1, .int (nI jo))]) hx hb gX5_nextBehind_3.2.2.1 hl (k := 1) rfl (nI_1 _) (by decide) rfl (fun ls hl => ?_)
          refine lv_goto (tgt := 8) hx hb gX5_nextBehind_3.2.2.2.1 (by decide) ?_
          have hst9 : NBI fbquestions W9 ja jo nx le (kP + 1) := hnb.keep (fun q9 h8 h9 => FCN.le hBL hQA (by omega) hSU h8 h9) (by omega) hcd9 c_46_2460
          exact ihP (kP + 1) nx le _ (by omega) (by first | assumption | exact Or.inl rfl | exact Or.inr rfl | exact NBI.zero) (lv_sub hl [0, 2, 3, 4, 5] rfl)
      · refine lv_if_ne (tgt := 34) hx hb gX5_nextBehind_1.2.2.2.2.2.2.2.1 (by decide) (fun c9 => absurd (by decide) c9) (fun _ => ?_)
        refine lv_goto (tgt := 58) hx hb gX5_nextBehind_1.2.2.2.2.2.2.2.2.1 (by decide) ?_
        refine lv_iinc (v := nI (kP + 1)) (lv' := [(4, .int (nI (kP + 1))), (3, .int le), (2, .int nx), (0, .ref h0), (1, .int (nI jo))]) hx hb gX5_nextBehind_3.2.2.1 hl (k := 0) rfl (nI_1 _) (by decide) rfl (fun ls hl => ?_)
        refine lv_goto (tgt := 8) hx hb gX5_nextBehind_3.2.2.2.1 (by decide) ?_
        have hst9 : NBI fbquestions W9 ja jo nx le (kP + 1) := hnb.skip (fun h9 => a2457 ((HB.tb (SMI.lt (by omega)) (by omega)).mpr ((SMI.cnd (by omega)).mpr h9)))
        exact ihP (kP + 1) nx le _ (by omega) (by first | assumption | exact Or.inl rfl | exact Or.inr rfl | exact NBI.zero) (lv_sub hl [0, 1, 2, 3, 4] rfl)
  exact keyP 7 0 0 1000000 _ (by omega) (by first | assumption | exact Or.inl rfl | exact Or.inr rfl | exact NBI.zero) (lv_sub hl [0, 1, 2, 3, 4] rfl)
def K_c_tellRowsX (l : Launch) (G : GG) (N9 : Nat → Nat) (h0 : Nat) (bb : Nat) (rr : Nat) (tc : Nat) (ja : Nat) (st9 : Int32) (tol : Int32) (rrc : Nat) (kr : Nat) (frr : Nat → Int32) (ftc : Nat → Int32) (bpersons : Nat) (bpapers : Nat) (bstamps : Nat) (bversions : Nat) (blines : Nat) (bsteps : Nat) (bsayings : Nat) (bfindings : Nat) (bwarnings : Nat) (bquestions : Nat) (td : Int32) (vd : Int32) (vl : Int32) (gp : Int32) (bquestionsc : Nat) (kbquestions : Nat) (fbquestions : Nat → Int32) : Prop := MV l G yX5_tellRows cX5_tellRows 6 6 0 0 [.ref h0] [(h0, oX5 bb rr tc (nI ja) st9 tol), (rr, oX8 7 2 rrc (nI kr)), (rrc, iA G 14 frr), (tc, iA G 128 ftc), (bb, oX0 bpersons bpapers bstamps bversions blines bsteps bsayings bfindings bwarnings bquestions td vd vl gp), (bquestions, oX8 7 2 bquestionsc (nI kbquestions)), (bquestionsc, iA G 14 fbquestions)] (fun u : Nat × (Nat → Int32) => u.1 ≤ 7 ∧ ROQ fbquestions ja N9 st9 u.1 u.2) (fun u : Nat × (Nat → Int32) => [(h0, oX5 bb rr tc (nI ja) st9 tol), (rr, oX8 7 2 rrc (nI u.1)), (rrc, iA G 14 u.2), (tc, iA G 128 ftc), (bb, oX0 bpersons bpapers bstamps bversions blines bsteps bsayings bfindings bwarnings bquestions td vd vl gp), (bquestions, oX8 7 2 bquestionsc (nI kbquestions)), (bquestionsc, iA G 14 fbquestions)])
set_option maxHeartbeats 4000000 in
set_option maxRecDepth 100000 in
theorem c_tellRowsX (l : Launch) (G : GG) (W9 : Nat → Nat) (N9 : Nat → Nat) (h0 : Nat) (bb : Nat) (rr : Nat) (tc : Nat) (ja : Nat) (st9 : Int32) (tol : Int32) (rrc : Nat) (kr : Nat) (frr : Nat → Int32) (ftc : Nat → Int32) (bpersons : Nat) (bpapers : Nat) (bstamps : Nat) (bversions : Nat) (blines : Nat) (bsteps : Nat) (bsayings : Nat) (bfindings : Nat) (bwarnings : Nat) (bquestions : Nat) (td : Int32) (vd : Int32) (vl : Int32) (gp : Int32) (bquestionsc : Nat) (kbquestions : Nat) (fbquestions : Nat → Int32) (hkr : kr ≤ 7) (hkbquestions : kbquestions ≤ 7) (hQA : QAK fbquestions ja) (hHQ : HQA ja kbquestions) (hBL : BELL fbquestions ja W9 N9) (hTC : TCI W9 ja 0 ftc) (hja : ja < 128) : K_c_tellRowsX l G N9 h0 bb rr tc ja st9 tol rrc kr frr ftc bpersons bpapers bstamps bversions blines bsteps bsayings bfindings bwarnings bquestions td vd vl gp bquestionsc kbquestions fbquestions := by
  refine MV.start (by decide +kernel) (Nat.le_of_ble_eq_true rfl) ?_
  intro p e s m below meth c A ls hC hK hP hD hS hA hl
  refine absQ (fun Q0 hQ0 => ?_)
  have hl : lv_has ls 6 [(0, .ref h0)] := hl
  refine Kan8 hC (fun hx hb hr hml hB hown hlocks hnm => ?_)
  refine lv_aload_n hx hb gX5_tellRows_0.1 rfl (lv_at0 hl) ?_
  refine gf_X5_14 hC rfl hK hP 0 rfl rfl gX5_tellRows_0.2.1 ?_
  refine lv_iconst (v := 0) hx hb gX5_tellRows_0.2.2.1 (by decide) ?_
  refine vV (wr := [(h0, oX5 bb rr tc (nI ja) st9 tol), (rrc, iA G 14 frr), (tc, iA G 128 ftc), (bb, oX0 bpersons bpapers bstamps bversions blines bsteps bsayings bfindings bwarnings bquestions td vd vl gp), (bquestions, oX8 7 2 bquestionsc (nI kbquestions)), (bquestionsc, iA G 14 fbquestions)]) hC hK hl hP hD hS hA (c_T_cut0 l G rr 7 2 rrc kr (by omega)) si_X5_78 [1] [0, 2, 3, 4, 5, 6] sm_1 fm_1 nd_1 sm_0_2_3_4_5_6 nd_0_2_3_4_5_6 dj_1__0_2_3_4_5_6 rfl rfl rfl rfl rfl (Nat.le_of_ble_eq_true rfl) rm_6_1_2 ⟨Nat.le_of_ble_eq_true rfl, Nat.le_of_ble_eq_true rfl⟩ gX5_tellRows_0.2.2.2.1 (fun u2462 H locs hr2461 hP hD hS => ?_)
  refine Kpdr (ws := [(h0, oX5 bb rr tc (nI ja) st9 tol), (rrc, iA G 14 frr), (tc, iA G 128 ftc), (bb, oX0 bpersons bpapers bstamps bversions blines bsteps bsayings bfindings bwarnings bquestions td vd vl gp), (bquestions, oX8 7 2 bquestionsc (nI kbquestions)), (bquestionsc, iA G 14 fbquestions), (rr, oX8 7 2 rrc 0)]) hP hD (fun hP hD => ?_)
  refine lv_iconst (v := 0) hx hb gX5_tellRows_0.2.2.2.2.1 (by decide) ?_
  refine lv_istore_n (lv' := [(1, .int 0), (0, .ref h0)]) hx hb gX5_tellRows_0.2.2.2.2.2.1 rfl hl (by decide) rfl (fun ls hl => ?_)
  refine lv_aload_n hx hb gX5_tellRows_0.2.2.2.2.2.2.1 rfl (lv_at1 hl) ?_
  refine gf_X5_32 hC rfl hK hP 0 rfl rfl gX5_tellRows_0.2.2.2.2.2.2.2.1 ?_
  refine lv_istore_n (lv' := [(2, .int st9), (1, .int 0), (0, .ref h0)]) hx hb gX5_tellRows_0.2.2.2.2.2.2.2.2.1 rfl hl (by decide) rfl (fun ls hl => ?_)
  refine lv_iconst (v := 0) hx hb gX5_tellRows_0.2.2.2.2.2.2.2.2.2 (by decide) ?_
  refine lv_istore_n (lv' := [(3, .int 0), (2, .int st9), (1, .int 0), (0, .ref h0)]) hx hb gX5_tellRows_1.1 rfl hl (by decide) rfl (fun ls hl => ?_)
  have keyP : ∀ (nP kP : Nat) (ov9 : Int32) (dy9 : Int32) (vrr : Nat → Int32) (H : Heap) (locs : List Loc) (ls : Array Slot), kP + nP = 7 → (ov9 = nI (PSQ N9 kP 0)) → (PSK ja N9 kP) → (dy9 = st9 + nI (SDQ fbquestions N9 kP)) → (RWI fbquestions N9 st9 vrr kP) → va_PD G A [(h0, oX5 bb rr tc (nI ja) st9 tol), (rrc, iA G 14 vrr), (tc, iA G 128 ftc), (bb, oX0 bpersons bpapers bstamps bversions blines bsteps bsayings bfindings bwarnings bquestions td vd vl gp), (bquestions, oX8 7 2 bquestionsc (nI kbquestions)), (bquestionsc, iA G 14 fbquestions), (rr, oX8 7 2 rrc (nI kP))] H → va_S A s.heap H locs → lv_has ls 6 [(3, .int (nI kP)), (2, .int dy9), (1, .int ov9), (0, .ref h0)] → W p l e (RM 6 0 0) s m ([.ref h0] : List Value).toArray below meth c H locs 0 0 Q0 (F0 m 17 ls []) := by
    intro nP
    induction nP with
    | zero =>
      intro kP ov9 dy9 vrr H locs ls hkP hov hps hdy hrw hPD hS hl
      refine Kan2 hPD (fun hP hD => ?_)
      obtain rfl : 7 = kP := by omega
      refine Kpdr (ws := [(h0, oX5 bb rr tc (nI ja) st9 tol), (rrc, iA G 14 vrr), (tc, iA G 128 ftc), (bb, oX0 bpersons bpapers bstamps bversions blines bsteps bsayings bfindings bwarnings bquestions td vd vl gp), (bquestions, oX8 7 2 bquestionsc (nI kbquestions)), (bquestionsc, iA G 14 fbquestions), (rr, oX8 7 2 rrc 7)]) hP hD (fun hP hD => ?_)
      have hl : lv_has ls 6 [(3, .int 7), (2, .int dy9), (1, .int ov9), (0, .ref h0)] := hl
      refine lv_iload_n hx hb gX5_tellRows_1.2.1 rfl (lv_at0 hl) ?_
      refine lv_bipush (v := 7) hx hb gX5_tellRows_1.2.2.1 (by decide) ?_
      refine lv_icmp_ge (tgt := 92) hx hb gX5_tellRows_1.2.2.2.1 (by decide) (fun _ => ?_) (fun c9 => absurd (by decide) c9)
      refine toQ hQ0 ?_
      exact RV hC hP hD hS [0, 6, 1, 2, 3, 4, 5] (7, vrr) rfl rfl (by decide) (⟨by omega, ROQ.mk hps (hps.full (by omega)) hrw⟩) gX5_tellRows_5.2.2
    | succ nP ihP =>
      intro kP ov9 dy9 vrr H locs ls hkP hov hps hdy hrw hPD hS hl
      refine Kan2 hPD (fun hP hD => ?_)
      refine lv_iload_n hx hb gX5_tellRows_1.2.1 rfl (lv_at0 hl) ?_
      refine lv_bipush (v := 7) hx hb gX5_tellRows_1.2.2.1 (by decide) ?_
      refine lv_icmp_ge (tgt := 92) hx hb gX5_tellRows_1.2.2.2.1 (by decide) (fun c9 => absurd c9 (nI_ge (a := kP) (b := 7) (by omega) (by omega))) (fun _ => ?_)
      subst hov
      refine lv_iload_n hx hb gX5_tellRows_1.2.2.2.2.1 rfl (lv_at2 hl) ?_
      refine lv_aload_n hx hb gX5_tellRows_1.2.2.2.2.2.1 rfl (lv_at3 hl) ?_
      refine gf_X5_28 hC rfl hK hP 0 rfl rfl gX5_tellRows_1.2.2.2.2.2.2.1 ?_
      refine lv_icmp_eq (tgt := 92) hx hb gX5_tellRows_1.2.2.2.2.2.2.2.1 (by decide) (fun c_28_2463 => ?_) (fun c_28_2463 => ?_)
      · have heq9 : PSQ N9 kP 0 = ja := (nI_eq (by have := hps.2.1; omega) (by omega)).mp c_28_2463
        refine toQ hQ0 ?_
        exact RV hC hP hD hS [0, 6, 1, 2, 3, 4, 5] (kP, vrr) rfl rfl (by decide) (⟨by omega, ROQ.mk hps heq9 hrw⟩) gX5_tellRows_5.2.2
      · have hne9 : ¬ (PSQ N9 kP 0) = ja := fun h9 => c_28_2463 (congrArg nI h9)
        have hsu9 : SUB (PSQ N9 kP 0) ja := hps.1
        have hlt9 : (PSQ N9 kP 0) < 128 := hps.2.1
        have htc9 : TCI W9 ja ((PSQ N9 kP 0) + 1) ftc := hTC.mono (by omega)
        have hnx9 := ((hBL _ hlt9 hsu9).2.2 hne9).1.1
        have hn79 : N9 (PSQ N9 kP 0) < 7 := hnx9.1
        have hba9 : ja.testBit (N9 (PSQ N9 kP 0)) = true := hnx9.2.1
        have hkq9 : N9 (PSQ N9 kP 0) < kbquestions := hHQ _ hn79 hba9
        refine lv_aload_n hx hb gX5_tellRows_1.2.2.2.2.2.2.2.2.1 rfl (lv_at3 hl) ?_
        refine lv_iload_n hx hb gX5_tellRows_1.2.2.2.2.2.2.2.2.2 rfl (lv_at2 hl) ?_
        refine pV hC hK hl hP hD (c_nextBehindX l G W9 N9 h0 (PSQ N9 kP 0) bb rr tc ja st9 tol ftc bpersons bpapers bstamps bversions blines bsteps bsayings bfindings bwarnings bquestions td vd vl gp bquestionsc kbquestions fbquestions (hkbquestions) (hQA) (hHQ) (hBL) (hsu9) (hne9) (htc9) (by omega) (hja)) si_X5_51 [0, 2, 3, 4, 5] sm_0_2_3_4_5 fm_0_2_3_4_5 nd_0_2_3_4_5 rfl rfl rfl rfl rfl (Nat.le_of_ble_eq_true rfl) rm_6_5_6 ⟨by first | exact Nat.le_of_ble_eq_true rfl | exact Nat.zero_le _, by first | exact Nat.le_of_ble_eq_true rfl | exact Nat.zero_le _⟩ gX5_tellRows_2.1 (Keqr ?_)
        refine lv_istore (lv' := [(4, .int (nI (N9 (PSQ N9 kP 0)))), (3, .int (nI kP)), (2, .int dy9), (1, .int (nI (PSQ N9 kP 0))), (0, .ref h0)]) hx hb gX5_tellRows_2.2.1 hl (by decide) rfl (fun ls hl => ?_)
        refine lv_iload_n hx hb gX5_tellRows_2.2.2.1 rfl (lv_at3 hl) ?_
        refine lv_iconst (v := 1) hx hb gX5_tellRows_2.2.2.2.1 (by decide) ?_
        refine lv_iload hx hb gX5_tellRows_2.2.2.2.2.1 (lv_at0 hl) ?_
        refine lv_ishl hx hb gX5_tellRows_2.2.2.2.2.2.1 ?_
        refine lv_ior hx hb gX5_tellRows_2.2.2.2.2.2.2.1 ?_
        refine eqi (x1 := nI (PSQ N9 (kP + 1) 0)) ((st_or (by omega) (by omega)).1.trans (congrArg nI (PSQ.last kP 0).symm)) ?_
        refine lv_istore_n (lv' := [(1, .int (nI (PSQ N9 (kP + 1) 0))), (4, .int (nI (N9 (PSQ N9 kP 0)))), (3, .int (nI kP)), (2, .int dy9), (0, .ref h0)]) hx hb gX5_tellRows_2.2.2.2.2.2.2.2.1 rfl hl (by decide) rfl (fun ls hl => ?_)
        refine lv_iload_n hx hb gX5_tellRows_2.2.2.2.2.2.2.2.2.1 rfl (lv_at3 hl) ?_
        refine lv_aload_n hx hb gX5_tellRows_2.2.2.2.2.2.2.2.2.2 rfl (lv_at4 hl) ?_
        refine lv_iload hx hb gX5_tellRows_3.1 (lv_at1 hl) ?_
        refine pV hC hK hl hP hD (c_lengthOfX l G ja h0 (N9 (PSQ N9 kP 0)) bb rr tc (nI ja) st9 tol bpersons bpapers bstamps bversions blines bsteps bsayings bfindings bwarnings bquestions td vd vl gp bquestionsc kbquestions fbquestions (hkbquestions) (hQA) (hba9) (by omega)) si_X5_61 [0, 3, 4, 5] sm_0_3_4_5 fm_0_3_4_5 nd_0_3_4_5 rfl rfl rfl rfl rfl (Nat.le_of_ble_eq_true rfl) rm_6_3_2 ⟨by first | exact Nat.le_of_ble_eq_true rfl | exact Nat.zero_le _, by first | exact Nat.le_of_ble_eq_true rfl | exact Nat.zero_le _⟩ gX5_tellRows_3.2.1 (Keqr ?_)
        refine lv_iadd hx hb gX5_tellRows_3.2.2.1 ?_
        refine lv_istore_n (lv' := [(2, .int (dy9 + (nI (DYQ fbquestions (N9 (PSQ N9 kP 0)))))), (1, .int (nI (PSQ N9 (kP + 1) 0))), (4, .int (nI (N9 (PSQ N9 kP 0)))), (3, .int (nI kP)), (0, .ref h0)]) hx hb gX5_tellRows_3.2.2.2.1 rfl hl (by decide) rfl (fun ls hl => ?_)
        refine lv_aload_n hx hb gX5_tellRows_3.2.2.2.2.1 rfl (lv_at4 hl) ?_
        refine gf_X5_14 hC rfl hK hP 0 rfl rfl gX5_tellRows_3.2.2.2.2.2.1 ?_
        refine iV (wr := [(h0, oX5 bb rr tc (nI ja) st9 tol), (rrc, iA G 14 vrr), (tc, iA G 128 ftc), (bb, oX0 bpersons bpapers bstamps bversions blines bsteps bsayings bfindings bwarnings bquestions td vd vl gp), (bquestions, oX8 7 2 bquestionsc (nI kbquestions)), (bquestionsc, iA G 14 fbquestions)]) hC hK hl hP hD hS hA (c_T_append l G rr 7 2 rrc kP (by omega) (by omega)) si_X5_82 [6] [0, 1, 2, 3, 4, 5] sm_6 fm_6 nd_6 sm_0_1_2_3_4_5 nd_0_1_2_3_4_5 dj_6__0_1_2_3_4_5 rfl rfl rfl rfl rfl (Nat.le_of_ble_eq_true rfl) rm_6_1_1 ⟨Nat.le_of_ble_eq_true rfl, Nat.le_of_ble_eq_true rfl⟩ gX5_tellRows_3.2.2.2.2.2.2.1 (fun r2468 u2469 H locs hr2468 hP hD hS => ?_)
        refine Kpdr (ws := [(h0, oX5 bb rr tc (nI ja) st9 tol), (rrc, iA G 14 vrr), (tc, iA G 128 ftc), (bb, oX0 bpersons bpapers bstamps bversions blines bsteps bsayings bfindings bwarnings bquestions td vd vl gp), (bquestions, oX8 7 2 bquestionsc (nI kbquestions)), (bquestionsc, iA G 14 fbquestions), (rr, oX8 7 2 rrc (nI (kP + 1)))]) hP hD (fun hP hD => ?_)
        obtain rfl := hr2468
        refine lv_istore (lv' := [(5, .int (nI kP)), (2, .int (dy9 + (nI (DYQ fbquestions (N9 (PSQ N9 kP 0)))))), (1, .int (nI (PSQ N9 (kP + 1) 0))), (4, .int (nI (N9 (PSQ N9 kP 0)))), (3, .int (nI kP)), (0, .ref h0)]) hx hb gX5_tellRows_3.2.2.2.2.2.2.2.1 hl (by decide) rfl (fun ls hl => ?_)
        refine lv_aload_n hx hb gX5_tellRows_3.2.2.2.2.2.2.2.2.1 rfl (lv_at5 hl) ?_
        refine gf_X5_14 hC rfl hK hP 0 rfl rfl gX5_tellRows_3.2.2.2.2.2.2.2.2.2 ?_
        refine lv_iload hx hb gX5_tellRows_4.1 (lv_at0 hl) ?_
        refine lv_iconst (v := 0) hx hb gX5_tellRows_4.2.1 (by decide) ?_
        refine lv_iload hx hb gX5_tellRows_4.2.2.1 (lv_at3 hl) ?_
        refine vV (wr := [(h0, oX5 bb rr tc (nI ja) st9 tol), (tc, iA G 128 ftc), (bb, oX0 bpersons bpapers bstamps bversions blines bsteps bsayings bfindings bwarnings bquestions td vd vl gp), (bquestions, oX8 7 2 bquestionsc (nI kbquestions)), (bquestionsc, iA G 14 fbquestions)]) hC hK hl hP hD hS hA (c_T_set l G rr (nI kP) 0 (nI (N9 (PSQ N9 kP 0))) 7 2 rrc (kP + 1) vrr (by omega) (by omega) (by omega)) si_X5_86 [6, 1] [0, 2, 3, 4, 5] sm_6_1 fm_6_1 nd_6_1 sm_0_2_3_4_5 nd_0_2_3_4_5 dj_6_1__0_2_3_4_5 rfl rfl rfl rfl rfl (Nat.le_of_ble_eq_true rfl) rm_6_1_4 ⟨Nat.le_of_ble_eq_true rfl, Nat.le_of_ble_eq_true rfl⟩ gX5_tellRows_4.2.2.2.1 (fun f12473 H locs hr2471 hP hD hS => ?_)
        try dsimp only at hr2471
        refine Kpdr (ws := [(h0, oX5 bb rr tc (nI ja) st9 tol), (tc, iA G 128 ftc), (bb, oX0 bpersons bpapers bstamps bversions blines bsteps bsayings bfindings bwarnings bquestions td vd vl gp), (bquestions, oX8 7 2 bquestionsc (nI kbquestions)), (bquestionsc, iA G 14 fbquestions), (rr, oX8 7 2 rrc (nI (kP + 1))), (rrc, iA G 14 f12473)]) hP hD (fun hP hD => ?_)
        have w2474 := hr2471
        refine lv_aload_n hx hb gX5_tellRows_4.2.2.2.2.1 rfl (lv_at5 hl) ?_
        refine gf_X5_14 hC rfl hK hP 0 rfl rfl gX5_tellRows_4.2.2.2.2.2.1 ?_
        refine lv_iload hx hb gX5_tellRows_4.2.2.2.2.2.2.1 (lv_at0 hl) ?_
        refine lv_iconst (v := 1) hx hb gX5_tellRows_4.2.2.2.2.2.2.2.1 (by decide) ?_
        refine lv_iload_n hx hb gX5_tellRows_4.2.2.2.2.2.2.2.2.1 rfl (lv_at1 hl) ?_
        refine vV (wr := [(h0, oX5 bb rr tc (nI ja) st9 tol), (tc, iA G 128 ftc), (bb, oX0 bpersons bpapers bstamps bversions blines bsteps bsayings bfindings bwarnings bquestions td vd vl gp), (bquestions, oX8 7 2 bquestionsc (nI kbquestions)), (bquestionsc, iA G 14 fbquestions)]) hC hK hl hP hD hS hA (c_T_set l G rr (nI kP) 1 (dy9 + (nI (DYQ fbquestions (N9 (PSQ N9 kP 0))))) 7 2 rrc (kP + 1) f12473 (by omega) (by omega) (by omega)) si_X5_86 [5, 6] [0, 1, 2, 3, 4] sm_5_6 fm_5_6 nd_5_6 sm_0_1_2_3_4 nd_0_1_2_3_4 dj_5_6__0_1_2_3_4 rfl rfl rfl rfl rfl (Nat.le_of_ble_eq_true rfl) rm_6_1_4 ⟨Nat.le_of_ble_eq_true rfl, Nat.le_of_ble_eq_true rfl⟩ gX5_tellRows_4.2.2.2.2.2.2.2.2.2 (fun f12477 H locs hr2475 hP hD hS => ?_)
        try dsimp only at hr2475
        refine Kpdr (ws := [(h0, oX5 bb rr tc (nI ja) st9 tol), (tc, iA G 128 ftc), (bb, oX0 bpersons bpapers bstamps bversions blines bsteps bsayings bfindings bwarnings bquestions td vd vl gp), (bquestions, oX8 7 2 bquestionsc (nI kbquestions)), (bquestionsc, iA G 14 fbquestions), (rr, oX8 7 2 rrc (nI (kP + 1))), (rrc, iA G 14 f12477)]) hP hD (fun hP hD => ?_)
        have w2478 := hr2475
        refine lv_iinc (v := nI (kP + 1)) (lv' := [(3, .int (nI (kP + 1))), (5, .int (nI kP)), (2, .int (dy9 + (nI (DYQ fbquestions (N9 (PSQ N9 kP 0)))))), (1, .int (nI (PSQ N9 (kP + 1) 0))), (4, .int (nI (N9 (PSQ N9 kP 0)))), (0, .ref h0)]) hx hb gX5_tellRows_5.1 hl (k := 4) rfl (nI_1 _) (by decide) rfl (fun ls hl => ?_)
        refine lv_goto (tgt := 17) hx hb gX5_tellRows_5.2.1 (by decide) ?_
        refine Kpds (ws' := [(h0, oX5 bb rr tc (nI ja) st9 tol), (rrc, iA G 14 f12477), (tc, iA G 128 ftc), (bb, oX0 bpersons bpapers bstamps bversions blines bsteps bsayings bfindings bwarnings bquestions td vd vl gp), (bquestions, oX8 7 2 bquestionsc (nI kbquestions)), (bquestionsc, iA G 14 fbquestions), (rr, oX8 7 2 rrc (nI (kP + 1)))]) hP hD [0, 6, 1, 2, 3, 4, 5] fm_0_6_1_2_3_4_5 nd_0_6_1_2_3_4_5 sm_0_6_1_2_3_4_5 (fun hP hD => ?_)
        have hst7 : PSK ja N9 (kP + 1) := hps.next hBL hne9
        have hst8 : dy9 + (nI (DYQ fbquestions (N9 (PSQ N9 kP 0)))) = st9 + nI (SDQ fbquestions N9 (kP + 1)) := SDQ.next hdy
        have hst9 : RWI fbquestions N9 st9 f12477 (kP + 1) := hrw.next w2474 w2478 rfl hst8 (by omega)
        exact ihP (kP + 1) (nI (PSQ N9 (kP + 1) 0)) (dy9 + (nI (DYQ fbquestions (N9 (PSQ N9 kP 0))))) f12477 _ _ _ (by omega) (by first | assumption | exact Or.inl rfl | exact Or.inr rfl | exact rfl | exact PSK.zero | exact (Int32.add_zero _).symm | exact RWI.zero) (by first | assumption | exact Or.inl rfl | exact Or.inr rfl | exact rfl | exact PSK.zero | exact (Int32.add_zero _).symm | exact RWI.zero) (by first | assumption | exact Or.inl rfl | exact Or.inr rfl | exact rfl | exact PSK.zero | exact (Int32.add_zero _).symm | exact RWI.zero) (by first | assumption | exact Or.inl rfl | exact Or.inr rfl | exact rfl | exact PSK.zero | exact (Int32.add_zero _).symm | exact RWI.zero) (And.intro hP hD) hS (lv_sub hl [0, 2, 3, 5] rfl)
  exact keyP 7 0 0 st9 frr _ _ _ (by omega) (by first | assumption | exact Or.inl rfl | exact Or.inr rfl | exact rfl | exact PSK.zero | exact (Int32.add_zero _).symm | exact RWI.zero) (by first | assumption | exact Or.inl rfl | exact Or.inr rfl | exact rfl | exact PSK.zero | exact (Int32.add_zero _).symm | exact RWI.zero) (by first | assumption | exact Or.inl rfl | exact Or.inr rfl | exact rfl | exact PSK.zero | exact (Int32.add_zero _).symm | exact RWI.zero) (by first | assumption | exact Or.inl rfl | exact Or.inr rfl | exact rfl | exact PSK.zero | exact (Int32.add_zero _).symm | exact RWI.zero) (And.intro hP hD) hS (lv_sub hl [0, 1, 2, 3] rfl)
def K_c_orderX (l : Launch) (G : GG) (h0 : Nat) (ja : Nat) (bb : Nat) (rr : Nat) (tc : Nat) (asd : Int32) (st9 : Int32) (tol : Int32) (rrc : Nat) (kr : Nat) (frr : Nat → Int32) (ftc : Nat → Int32) (bpersons : Nat) (bpapers : Nat) (bstamps : Nat) (bversions : Nat) (blines : Nat) (bsteps : Nat) (bsayings : Nat) (bfindings : Nat) (bwarnings : Nat) (bquestions : Nat) (td : Int32) (vd : Int32) (vl : Int32) (gp : Int32) (bquestionsc : Nat) (kbquestions : Nat) (fbquestions : Nat → Int32) : Prop := MI l G yX5_order cX5_order 3 (some .int) 8 0 0 [.ref h0, .int (nI ja)] [(h0, oX5 bb rr tc asd st9 tol), (rr, oX8 7 2 rrc (nI kr)), (rrc, iA G 14 frr), (tc, iA G 128 ftc), (bb, oX0 bpersons bpapers bstamps bversions blines bsteps bsayings bfindings bwarnings bquestions td vd vl gp), (bquestions, oX8 7 2 bquestionsc (nI kbquestions)), (bquestionsc, iA G 14 fbquestions)] (fun (r : Int32) (u : Nat × (Nat → Int32) × (Nat → Int32)) => (r = (u.2.2 0)) ∧ (u.1 ≤ 7 ∧ RNDQ fbquestions ja td u.1 u.2.1 (u.2.2 0))) (fun u : Nat × (Nat → Int32) × (Nat → Int32) => [(h0, oX5 bb rr tc (nI ja) td 1), (rr, oX8 7 2 rrc (nI u.1)), (rrc, iA G 14 u.2.1), (tc, iA G 128 u.2.2), (bb, oX0 bpersons bpapers bstamps bversions blines bsteps bsayings bfindings bwarnings bquestions td vd vl gp), (bquestions, oX8 7 2 bquestionsc (nI kbquestions)), (bquestionsc, iA G 14 fbquestions)])
set_option maxHeartbeats 4000000 in
set_option maxRecDepth 100000 in
theorem c_orderX (l : Launch) (G : GG) (h0 : Nat) (ja : Nat) (bb : Nat) (rr : Nat) (tc : Nat) (asd : Int32) (st9 : Int32) (tol : Int32) (rrc : Nat) (kr : Nat) (frr : Nat → Int32) (ftc : Nat → Int32) (bpersons : Nat) (bpapers : Nat) (bstamps : Nat) (bversions : Nat) (blines : Nat) (bsteps : Nat) (bsayings : Nat) (bfindings : Nat) (bwarnings : Nat) (bquestions : Nat) (td : Int32) (vd : Int32) (vl : Int32) (gp : Int32) (bquestionsc : Nat) (kbquestions : Nat) (fbquestions : Nat → Int32) (hkr : kr ≤ 7) (hkbquestions : kbquestions ≤ 7) (hQA : QAK fbquestions ja) (hHQ : HQA ja kbquestions) (hja : ja < 128) : K_c_orderX l G h0 ja bb rr tc asd st9 tol rrc kr frr ftc bpersons bpapers bstamps bversions blines bsteps bsayings bfindings bwarnings bquestions td vd vl gp bquestionsc kbquestions fbquestions := by
  refine MI.start (by decide +kernel) (Nat.le_of_ble_eq_true rfl) ?_
  intro p e s m below meth c A ls hC hK hP hD hS hA hl
  refine absQ (fun Q0 hQ0 => ?_)
  have hl : lv_has ls 3 [(0, .ref h0), (1, .int (nI ja))] := hl
  refine Kan8 hC (fun hx hb hr hml hB hown hlocks hnm => ?_)
  obtain ⟨W9, N9, hBL⟩ := BELL.ex (f := fbquestions) (a := ja) (by omega) hQA
  refine lv_aload_n hx hb gX5_order_0.1 rfl (lv_at0 hl) ?_
  refine lv_iload_n hx hb gX5_order_0.2.1 rfl (lv_at1 hl) ?_
  refine lv_aload_n hx hb gX5_order_0.2.2.1 rfl (lv_at0 hl) ?_
  refine gf_X5_20 hC rfl hK hP 0 rfl rfl gX5_order_0.2.2.2.1 ?_
  refine va_alen (v := 128) hx hb hK.1 hP 3 0 rfl rfl (show Int32.ofNat 128 = 128 by decide) gX5_order_0.2.2.2.2.1 ?_
  refine lv_iconst (v := 1) hx hb gX5_order_0.2.2.2.2.2.1 (by decide) ?_
  refine lv_isub hx hb gX5_order_0.2.2.2.2.2.2.1 ?_
  refine eqi (x1 := 127) (by decide) ?_
  refine lv_iand hx hb gX5_order_0.2.2.2.2.2.2.2.1 ?_
  refine eqi (x1 := nI ja) (st_127 (by omega)) ?_
  refine pf_X5_28 hC rfl hK hP hD hS 0 (ws' := [(h0, oX5 bb rr tc (nI ja) st9 tol), (rr, oX8 7 2 rrc (nI kr)), (rrc, iA G 14 frr), (tc, iA G 128 ftc), (bb, oX0 bpersons bpapers bstamps bversions blines bsteps bsayings bfindings bwarnings bquestions td vd vl gp), (bquestions, oX8 7 2 bquestionsc (nI kbquestions)), (bquestionsc, iA G 14 fbquestions)]) rfl (Nat.le_of_ble_eq_true rfl) rfl rfl rfl gX5_order_0.2.2.2.2.2.2.2.2.1 (fun H locs hP hD hS => ?_)
  refine lv_aload_n hx hb gX5_order_0.2.2.2.2.2.2.2.2.2 rfl (lv_at0 hl) ?_
  refine lv_aload_n hx hb gX5_order_1.1 rfl (lv_at0 hl) ?_
  refine gf_X5_24 hC rfl hK hP 0 rfl rfl gX5_order_1.2.1 ?_
  refine gf_X5_48 hC rfl hK hP 4 rfl rfl gX5_order_1.2.2.1 ?_
  refine pf_X5_32 hC rfl hK hP hD hS 0 (ws' := [(h0, oX5 bb rr tc (nI ja) td tol), (rr, oX8 7 2 rrc (nI kr)), (rrc, iA G 14 frr), (tc, iA G 128 ftc), (bb, oX0 bpersons bpapers bstamps bversions blines bsteps bsayings bfindings bwarnings bquestions td vd vl gp), (bquestions, oX8 7 2 bquestionsc (nI kbquestions)), (bquestionsc, iA G 14 fbquestions)]) rfl (Nat.le_of_ble_eq_true rfl) rfl rfl rfl gX5_order_1.2.2.2.1 (fun H locs hP hD hS => ?_)
  refine lv_aload_n hx hb gX5_order_1.2.2.2.2.1 rfl (lv_at0 hl) ?_
  refine lv_iconst (v := 1) hx hb gX5_order_1.2.2.2.2.2.1 (by decide) ?_
  refine pf_X5_35 hC rfl hK hP hD hS 0 (ws' := [(h0, oX5 bb rr tc (nI ja) td 1), (rr, oX8 7 2 rrc (nI kr)), (rrc, iA G 14 frr), (tc, iA G 128 ftc), (bb, oX0 bpersons bpapers bstamps bversions blines bsteps bsayings bfindings bwarnings bquestions td vd vl gp), (bquestions, oX8 7 2 bquestionsc (nI kbquestions)), (bquestionsc, iA G 14 fbquestions)]) rfl (Nat.le_of_ble_eq_true rfl) rfl (by decide +kernel) (by decide +kernel) gX5_order_1.2.2.2.2.2.2.1 (fun H locs hP hD hS => ?_)
  refine lv_aload_n hx hb gX5_order_1.2.2.2.2.2.2.2.1 rfl (lv_at0 hl) ?_
  refine gf_X5_28 hC rfl hK hP 0 rfl rfl gX5_order_1.2.2.2.2.2.2.2.2.1 ?_
  refine lv_istore_n (lv' := [(2, .int (nI ja)), (0, .ref h0), (1, .int (nI ja))]) hx hb gX5_order_1.2.2.2.2.2.2.2.2.2 rfl hl (by decide) rfl (fun ls hl => ?_)
  have keyD : ∀ (jD : Nat) (vtc : Nat → Int32) (H : Heap) (locs : List Loc) (ls : Array Slot), jD ≤ ja + 1 → (TCI W9 ja jD vtc) → va_PD G A [(h0, oX5 bb rr tc (nI ja) td 1), (rr, oX8 7 2 rrc (nI kr)), (rrc, iA G 14 frr), (tc, iA G 128 vtc), (bb, oX0 bpersons bpapers bstamps bversions blines bsteps bsayings bfindings bwarnings bquestions td vd vl gp), (bquestions, oX8 7 2 bquestionsc (nI kbquestions)), (bquestionsc, iA G 14 fbquestions)] H → va_S A s.heap H locs → lv_has ls 3 [(2, .int (nI jD - 1)), (0, .ref h0), (1, .int (nI ja))] → W p l e (RM 8 0 0) s m ([.ref h0, .int (nI ja)] : List Value).toArray below meth c H locs 0 0 Q0 (F0 m 34 ls []) := by
    intro jD
    induction jD with
    | zero =>
      intro vtc H locs ls hkD hvD hPD hS hl
      refine Kan2 hPD (fun hP hD => ?_)
      have hl : lv_has ls 3 [(2, .int (-1)), (0, .ref h0), (1, .int (nI ja))] := hl
      refine lv_iload_n hx hb gX5_order_2.1 rfl (lv_at0 hl) ?_
      refine lv_if_lt (tgt := 83) hx hb gX5_order_2.2.1 (by decide) (fun _ => ?_) (fun c9 => absurd (by decide) c9)
      refine lv_aload_n hx hb gX5_order_4.2.2.2.2.2.2.2.1 rfl (lv_at1 hl) ?_
      refine vV (wr := []) hC hK hl hP hD hS hA (c_tellRowsX l G W9 N9 h0 bb rr tc ja td 1 rrc kr frr vtc bpersons bpapers bstamps bversions blines bsteps bsayings bfindings bwarnings bquestions td vd vl gp bquestionsc kbquestions fbquestions (hkr) (hkbquestions) (hQA) (hHQ) (hBL) (hvD) (hja)) si_X5_58 [0, 1, 2, 3, 4, 5, 6] [] sm_0_1_2_3_4_5_6 fm_0_1_2_3_4_5_6 nd_0_1_2_3_4_5_6 rfl rfl (by decide) rfl rfl rfl rfl rfl (Nat.le_of_ble_eq_true rfl) rm_8_6_6 ⟨Nat.le_of_ble_eq_true rfl, Nat.le_of_ble_eq_true rfl⟩ gX5_order_4.2.2.2.2.2.2.2.2.1 (Ktu2 fun nr2481 grr2482 => ?_)
      intro H locs hr2479 hP hD hS
      try dsimp only at hr2479
      refine Kpdr (ws := [(h0, oX5 bb rr tc (nI ja) td 1), (rr, oX8 7 2 rrc (nI nr2481)), (rrc, iA G 14 grr2482), (tc, iA G 128 vtc), (bb, oX0 bpersons bpapers bstamps bversions blines bsteps bsayings bfindings bwarnings bquestions td vd vl gp), (bquestions, oX8 7 2 bquestionsc (nI kbquestions)), (bquestionsc, iA G 14 fbquestions)]) hP hD (fun hP hD => ?_)
      have w2483 := hr2479
      refine lv_aload_n hx hb gX5_order_4.2.2.2.2.2.2.2.2.2 rfl (lv_at1 hl) ?_
      refine gf_X5_20 hC rfl hK hP 0 rfl rfl gX5_order_5.1 ?_
      refine lv_iconst (v := 0) hx hb gX5_order_5.2.1 (by decide) ?_
      refine ald hC hK hP 3 rfl (vin (by decide +kernel)) (k := 0) (by decide +kernel) (v := vtc 0) (rfl) gX5_order_5.2.2.1 ?_
      refine toQ hQ0 ?_
      exact RI (v := vtc 0) hC hP hD hS [0, 1, 2, 3, 4, 5, 6] (nr2481, grr2482, vtc) rfl rfl (by decide) (⟨rfl, ⟨w2483.1, W9, N9, hBL, hvD 0 (Nat.zero_le _) (by decide) SUB.zero, w2483.2⟩⟩) rfl gX5_order_5.2.2.2
    | succ jD ihD =>
      intro vtc H locs ls hkD hvD hPD hS hl
      refine Kan2 hPD (fun hP hD => ?_)
      have hl : lv_has ls 3 [(2, .int (nI jD)), (0, .ref h0), (1, .int (nI ja))] := by rw [nI_sub1] at hl; exact hl
      refine lv_iload_n hx hb gX5_order_2.1 rfl (lv_at0 hl) ?_
      refine lv_if_lt (tgt := 83) hx hb gX5_order_2.2.1 (by decide) (fun c9 => absurd c9 (nI_nn (by omega))) (fun _ => ?_)
      refine lv_iload_n hx hb gX5_order_2.2.2.1 rfl (lv_at0 hl) ?_
      refine lv_aload_n hx hb gX5_order_2.2.2.2.1 rfl (lv_at1 hl) ?_
      refine gf_X5_28 hC rfl hK hP 0 rfl rfl gX5_order_2.2.2.2.2.1 ?_
      refine lv_iconst (v := (-1)) hx hb gX5_order_2.2.2.2.2.2.1 (by decide) ?_
      refine lv_ixor hx hb gX5_order_2.2.2.2.2.2.2.1 ?_
      refine lv_iand hx hb gX5_order_2.2.2.2.2.2.2.2.1 ?_
      refine eqi (x1 := nI (SMI jD ja)) (SMI.eq) ?_
      refine lv_if_ne (tgt := 77) hx hb gX5_order_2.2.2.2.2.2.2.2.2.1 (by decide) (fun c_46_2484 => ?_) (fun c_46_2484 => ?_)
      · refine lv_iinc (v := nI jD - 1) (lv' := [(2, .int (nI jD - 1)), (0, .ref h0), (1, .int (nI ja))]) hx hb gX5_order_4.2.2.2.2.2.1 hl (k := 0) rfl (nI_dec _) (by decide) rfl (fun ls hl => ?_)
        refine lv_goto (tgt := 34) hx hb gX5_order_4.2.2.2.2.2.2.1 (by decide) ?_
        exact ihD vtc _ _ _ (by omega) (hvD.skip (fun h9 => c_46_2484 (congrArg nI (SUB.z (by omega) h9)))) (And.intro hP hD) hS (lv_sub hl [0, 1, 2] rfl)
      · have hjd9 : jD < 128 := by omega
        have hsu9 : SUB jD ja := SUB.ofz (nI_zr (Nat.lt_trans (SMI.lt hjd9) (by decide)) c_46_2484)
        refine lv_aload_n hx hb gX5_order_2.2.2.2.2.2.2.2.2.2 rfl (lv_at1 hl) ?_
        refine gf_X5_20 hC rfl hK hP 0 rfl rfl gX5_order_3.1 ?_
        refine lv_iload_n hx hb gX5_order_3.2.1 rfl (lv_at0 hl) ?_
        refine lv_iload_n hx hb gX5_order_3.2.2.1 rfl (lv_at0 hl) ?_
        refine lv_aload_n hx hb gX5_order_3.2.2.2.1 rfl (lv_at1 hl) ?_
        refine gf_X5_28 hC rfl hK hP 0 rfl rfl gX5_order_3.2.2.2.2.1 ?_
        refine lv_icmp_ne (tgt := 66) hx hb gX5_order_3.2.2.2.2.2.1 (by decide) (fun c_59_2485 => ?_) (fun c_59_2485 => ?_)
        · have hne9 : ¬ jD = ja := fun h9 => c_59_2485 (congrArg nI h9)
          have hbw9 := (hBL jD hjd9 hsu9).2.2 hne9
          have hn79 : N9 jD < 7 := hbw9.1.1.1
          have hba9 : ja.testBit (N9 jD) = true := hbw9.1.1.2.1
          have hbn9 : jD.testBit (N9 jD) = false := hbw9.1.1.2.2
          have hkq9 : N9 jD < kbquestions := hHQ _ hn79 hba9
          have htw9 : vtc (jD ||| 2 ^ (N9 jD)) = nI (W9 (jD ||| 2 ^ (N9 jD))) := TCI.or hvD hjd9 hn79 hsu9 hba9 hbn9
          refine lv_aload_n hx hb gX5_order_3.2.2.2.2.2.2.2.2.1 rfl (lv_at1 hl) ?_
          refine lv_iload_n hx hb gX5_order_3.2.2.2.2.2.2.2.2.2 rfl (lv_at0 hl) ?_
          refine lv_aload_n hx hb gX5_order_4.1 rfl (lv_at1 hl) ?_
          refine lv_iload_n hx hb gX5_order_4.2.1 rfl (lv_at0 hl) ?_
          refine pV hC hK hl hP hD (c_nextBehindX l G W9 N9 h0 jD bb rr tc ja td 1 vtc bpersons bpapers bstamps bversions blines bsteps bsayings bfindings bwarnings bquestions td vd vl gp bquestionsc kbquestions fbquestions (hkbquestions) (hQA) (hHQ) (hBL) (hsu9) (hne9) (hvD) (by omega) (hja)) si_X5_51 [0, 3, 4, 5, 6] sm_0_3_4_5_6 fm_0_3_4_5_6 nd_0_3_4_5_6 rfl rfl rfl rfl rfl (Nat.le_of_ble_eq_true rfl) rm_8_5_6 ⟨by first | exact Nat.le_of_ble_eq_true rfl | exact Nat.zero_le _, by first | exact Nat.le_of_ble_eq_true rfl | exact Nat.zero_le _⟩ gX5_order_4.2.2.1 (Keqr ?_)
          refine pV hC hK hl hP hD (c_costBehindX l G ja W9 h0 jD (N9 jD) bb rr tc (nI ja) td 1 vtc bpersons bpapers bstamps bversions blines bsteps bsayings bfindings bwarnings bquestions td vd vl gp bquestionsc kbquestions fbquestions (hkbquestions) (hQA) (hHQ) (hsu9) (hba9) (hbn9) (htw9) (by omega) (by omega)) si_X5_55 [0, 3, 4, 5, 6] sm_0_3_4_5_6 fm_0_3_4_5_6 nd_0_3_4_5_6 rfl rfl rfl rfl rfl (Nat.le_of_ble_eq_true rfl) rm_8_4_7 ⟨by first | exact Nat.le_of_ble_eq_true rfl | exact Nat.zero_le _, by first | exact Nat.le_of_ble_eq_true rfl | exact Nat.zero_le _⟩ gX5_order_4.2.2.2.1 (Keqr ?_)
          refine astN hC hK hP hD hS 3 (ws' := [(h0, oX5 bb rr tc (nI ja) td 1), (rr, oX8 7 2 rrc (nI kr)), (rrc, iA G 14 frr), (tc, iA G 128 (upd vtc jD (nI (FCN fbquestions W9 jD (N9 jD))))), (bb, oX0 bpersons bpapers bstamps bversions blines bsteps bsayings bfindings bwarnings bquestions td vd vl gp), (bquestions, oX8 7 2 bquestionsc (nI kbquestions)), (bquestionsc, iA G 14 fbquestions)]) rfl (k := jD) (by omega) (Nat.le_of_ble_eq_true rfl) (rfl) gX5_order_4.2.2.2.2.1 (fun H locs hP hD hS => ?_)
          refine lv_iinc (v := nI jD - 1) (lv' := [(2, .int (nI jD - 1)), (0, .ref h0), (1, .int (nI ja))]) hx hb gX5_order_4.2.2.2.2.2.1 hl (k := 0) rfl (nI_dec _) (by decide) rfl (fun ls hl => ?_)
          refine lv_goto (tgt := 34) hx hb gX5_order_4.2.2.2.2.2.2.1 (by decide) ?_
          exact ihD (upd vtc jD (nI (FCN fbquestions W9 jD (N9 jD)))) _ _ _ (by omega) (hvD.set (congrArg nI hbw9.2.symm)) (And.intro hP hD) hS (lv_sub hl [0, 1, 2] rfl)
        · refine lv_iconst (v := 0) hx hb gX5_order_3.2.2.2.2.2.2.1 (by decide) ?_
          refine lv_goto (tgt := 76) hx hb gX5_order_3.2.2.2.2.2.2.2.1 (by decide) ?_
          refine astN hC hK hP hD hS 3 (ws' := [(h0, oX5 bb rr tc (nI ja) td 1), (rr, oX8 7 2 rrc (nI kr)), (rrc, iA G 14 frr), (tc, iA G 128 (upd vtc jD 0)), (bb, oX0 bpersons bpapers bstamps bversions blines bsteps bsayings bfindings bwarnings bquestions td vd vl gp), (bquestions, oX8 7 2 bquestionsc (nI kbquestions)), (bquestionsc, iA G 14 fbquestions)]) rfl (k := jD) (by omega) (Nat.le_of_ble_eq_true rfl) (rfl) gX5_order_4.2.2.2.2.1 (fun H locs hP hD hS => ?_)
          refine lv_iinc (v := nI jD - 1) (lv' := [(2, .int (nI jD - 1)), (0, .ref h0), (1, .int (nI ja))]) hx hb gX5_order_4.2.2.2.2.2.1 hl (k := 0) rfl (nI_dec _) (by decide) rfl (fun ls hl => ?_)
          refine lv_goto (tgt := 34) hx hb gX5_order_4.2.2.2.2.2.2.1 (by decide) ?_
          exact ihD (upd vtc jD 0) _ _ _ (by omega) (hvD.set (congrArg nI ((hBL jD hjd9 hsu9).2.1 ((nI_eq (by omega) (by omega)).mp c_59_2485))).symm) (And.intro hP hD) hS (lv_sub hl [0, 1, 2] rfl)
  exact keyD (ja + 1) ftc _ _ _ (Nat.le_refl _) (TCI.zero) (And.intro hP hD) hS (by rw [nI_sub1]; exact lv_sub hl [0, 1, 2] rfl)
def K_p_round (l : Launch) (G : GG) (h0 : Nat) (x1 : Int32) (bb : Nat) (kk : Nat) (ikp : Int32) (sg : Nat) (do9 : Nat) (ru9 : Nat) (ta9 : Nat) (tp9 : Nat) (ro9 : Nat) (ho9 : Nat) (de9 : Nat) (bpersons : Nat) (bpapers : Nat) (bstamps : Nat) (bversions : Nat) (blines : Nat) (bsteps : Nat) (bsayings : Nat) (bfindings : Nat) (bwarnings : Nat) (bquestions : Nat) (td : Int32) (vd : Int32) (vl : Int32) (gp : Int32) (rr : Nat) (tc : Nat) (asd : Int32) (st9 : Int32) (tol : Int32) (rrc : Nat) (kr : Nat) (frr : Nat → Int32) (ftc : Nat → Int32) (bquestionsc : Nat) (kbquestions : Nat) (fbquestions : Nat → Int32) : Prop := MI l G yX11_round cX11_round 2 (some .int) 10 0 0 [.ref h0, .int x1] [(h0, oX11 bb kk ikp sg do9 ru9 ta9 tp9 ro9 ho9 de9), (bb, oX0 bpersons bpapers bstamps bversions blines bsteps bsayings bfindings bwarnings bquestions td vd vl gp), (ro9, oX5 bb rr tc asd st9 tol), (rr, oX8 7 2 rrc (nI kr)), (rrc, iA G 14 frr), (tc, iA G 128 ftc), (bquestions, oX8 7 2 bquestionsc (nI kbquestions)), (bquestionsc, iA G 14 fbquestions)] (fun (r : Int32) (u : Int32 × Int32 × Int32 × Nat × (Nat → Int32) × (Nat → Int32)) => (∃ s9, (RNC fbquestions kbquestions td x1 kr frr u.2.2.2.1 u.2.2.2.2.1 s9) ∧ r = s9) ∧ (u.2.2.2.1 ≤ 7 ∧ (u.2.2.1 = 0 ∨ u.2.2.1 = 1))) (fun u : Int32 × Int32 × Int32 × Nat × (Nat → Int32) × (Nat → Int32) => [(h0, oX11 bb kk ikp sg do9 ru9 ta9 tp9 ro9 ho9 de9), (bb, oX0 bpersons bpapers bstamps bversions blines bsteps bsayings bfindings bwarnings bquestions td vd vl gp), (ro9, oX5 bb rr tc u.1 u.2.1 u.2.2.1), (rr, oX8 7 2 rrc (nI u.2.2.2.1)), (rrc, iA G 14 u.2.2.2.2.1), (tc, iA G 128 u.2.2.2.2.2), (bquestions, oX8 7 2 bquestionsc (nI kbquestions)), (bquestionsc, iA G 14 fbquestions)])
set_option maxHeartbeats 4000000 in
set_option maxRecDepth 100000 in
theorem p_round (l : Launch) (G : GG) (h0 : Nat) (x1 : Int32) (bb : Nat) (kk : Nat) (ikp : Int32) (sg : Nat) (do9 : Nat) (ru9 : Nat) (ta9 : Nat) (tp9 : Nat) (ro9 : Nat) (ho9 : Nat) (de9 : Nat) (bpersons : Nat) (bpapers : Nat) (bstamps : Nat) (bversions : Nat) (blines : Nat) (bsteps : Nat) (bsayings : Nat) (bfindings : Nat) (bwarnings : Nat) (bquestions : Nat) (td : Int32) (vd : Int32) (vl : Int32) (gp : Int32) (rr : Nat) (tc : Nat) (asd : Int32) (st9 : Int32) (tol : Int32) (rrc : Nat) (kr : Nat) (frr : Nat → Int32) (ftc : Nat → Int32) (bquestionsc : Nat) (kbquestions : Nat) (fbquestions : Nat → Int32) (hkbquestions : kbquestions ≤ 7) (hkr : kr ≤ 7) (htol : tol = 0 ∨ tol = 1) (hQO : QOK fbquestions kbquestions) : K_p_round l G h0 x1 bb kk ikp sg do9 ru9 ta9 tp9 ro9 ho9 de9 bpersons bpapers bstamps bversions blines bsteps bsayings bfindings bwarnings bquestions td vd vl gp rr tc asd st9 tol rrc kr frr ftc bquestionsc kbquestions fbquestions := by
  refine MI.start (by decide +kernel) (Nat.le_of_ble_eq_true rfl) ?_
  intro p e s m below meth c A ls hC hK hP hD hS hA hl
  refine absQ (fun Q0 hQ0 => ?_)
  have hl : lv_has ls 2 [(0, .ref h0), (1, .int x1)] := hl
  refine Kan8 hC (fun hx hb hr hml hB hown hlocks hnm => ?_)
  refine lv_aload_n hx hb gX11_round_0.1 rfl (lv_at0 hl) ?_
  refine gf_X11_15 hC rfl hK hP 0 rfl rfl gX11_round_0.2.1 ?_
  refine gf_X11_286 hC rfl hK hP 1 rfl rfl gX11_round_0.2.2.1 ?_
  refine lv_iload_n hx hb gX11_round_0.2.2.2.1 rfl (lv_at1 hl) ?_
  refine pV hC hK hl hP hD (c_T_hasAll l G bquestions x1 7 2 bquestionsc kbquestions (by omega)) si_X11_141 [6] sm_6 fm_6 nd_6 rfl rfl rfl rfl rfl (Nat.le_of_ble_eq_true rfl) rm_10_1_2 ⟨by first | exact Nat.le_of_ble_eq_true rfl | exact Nat.zero_le _, by first | exact Nat.le_of_ble_eq_true rfl | exact Nat.zero_le _⟩ gX11_round_0.2.2.2.2.1 (Kors (Keqa fun a2491 => ?_) (Keqa fun a2491 => ?_))
  · refine lv_if_ne (tgt := 16) hx hb gX11_round_0.2.2.2.2.2.1 (by decide) (fun _ => ?_) (fun c9 => absurd c9 (by decide))
    refine lv_iload_n hx hb gX11_round_0.2.2.2.2.2.2.2.2.1 rfl (lv_at1 hl) ?_
    refine lv_if_ne (tgt := 23) hx hb gX11_round_0.2.2.2.2.2.2.2.2.2 (by decide) (fun c_17_2492 => ?_) (fun c_17_2492 => ?_)
    · refine lv_aload_n hx hb gX11_round_1.2.2.1 rfl (lv_at0 hl) ?_
      refine gf_X11_65 hC rfl hK hP 0 rfl rfl gX11_round_1.2.2.2.1 ?_
      refine lv_iload_n hx hb gX11_round_1.2.2.2.2.1 rfl (lv_at1 hl) ?_
      obtain ⟨ja, hja9, rfl⟩ := HA.nat (by omega) a2491
      have hja8 := hja9.1
      have hHQ9 : HQA ja kbquestions := HQA.of hja9.2
      have hQA9 : QAK fbquestions ja := QAK.of hQO hHQ9
      refine iV (wr := [(h0, oX11 bb kk ikp sg do9 ru9 ta9 tp9 ro9 ho9 de9)]) hC hK hl hP hD hS hA (c_orderX l G ro9 ja bb rr tc asd st9 tol rrc kr frr ftc bpersons bpapers bstamps bversions blines bsteps bsayings bfindings bwarnings bquestions td vd vl gp bquestionsc kbquestions fbquestions (hkr) (hkbquestions) (hQA9) (hHQ9) (by omega)) si_X11_289 [2, 3, 4, 5, 1, 6, 7] [0] sm_2_3_4_5_1_6_7 fm_2_3_4_5_1_6_7 nd_2_3_4_5_1_6_7 sm_0 nd_0 dj_2_3_4_5_1_6_7__0 rfl rfl rfl rfl rfl (Nat.le_of_ble_eq_true rfl) rm_10_8_3 ⟨Nat.le_of_ble_eq_true rfl, Nat.le_of_ble_eq_true rfl⟩ gX11_round_1.2.2.2.2.2.1 (fun r2493 => Ktu3 fun nr2495 grr2496 gtc2497 => ?_)
      intro H locs hr2493 hP hD hS
      try dsimp only at hr2493
      refine Kpdr (ws := [(h0, oX11 bb kk ikp sg do9 ru9 ta9 tp9 ro9 ho9 de9), (ro9, oX5 bb rr tc (nI ja) td 1), (rr, oX8 7 2 rrc (nI nr2495)), (rrc, iA G 14 grr2496), (tc, iA G 128 gtc2497), (bb, oX0 bpersons bpapers bstamps bversions blines bsteps bsayings bfindings bwarnings bquestions td vd vl gp), (bquestions, oX8 7 2 bquestionsc (nI kbquestions)), (bquestionsc, iA G 14 fbquestions)]) hP hD (fun hP hD => ?_)
      obtain ⟨hr2493, w2498⟩ := hr2493
      obtain rfl := hr2493
      refine toQ hQ0 ?_
      exact RI (v := (gtc2497 0)) hC hP hD hS [0, 5, 1, 2, 3, 4, 6, 7] (nI ja, td, 1, nr2495, grr2496, gtc2497) rfl rfl (by decide) (⟨⟨_, Or.inr (Or.inr ⟨ja, hja8, rfl, a2491, c_17_2492, w2498.2⟩), rfl⟩, by dsimp only; refine ⟨by omega, ?_⟩; first | assumption | exact Or.inr rfl⟩) rfl gX11_round_1.2.2.2.2.2.2
    · refine lv_bipush (v := (-3)) hx hb gX11_round_1.1 (by decide) ?_
      refine toQ hQ0 ?_
      exact RI (v := (-3)) hC hP hD hS [0, 1, 2, 3, 4, 5, 6, 7] (asd, st9, tol, kr, frr, ftc) rfl rfl (by decide) (⟨⟨(-3), Or.inr (Or.inl ⟨a2491, c_17_2492, rfl, rfl, rfl⟩), rfl⟩, by dsimp only; refine ⟨by omega, ?_⟩; first | assumption | exact Or.inr rfl⟩) rfl gX11_round_1.2.1
  · refine lv_if_ne (tgt := 16) hx hb gX11_round_0.2.2.2.2.2.1 (by decide) (fun c9 => absurd (by decide) c9) (fun _ => ?_)
    refine lv_iconst (v := (-1)) hx hb gX11_round_0.2.2.2.2.2.2.1 (by decide) ?_
    refine toQ hQ0 ?_
    exact RI (v := (-1)) hC hP hD hS [0, 1, 2, 3, 4, 5, 6, 7] (asd, st9, tol, kr, frr, ftc) rfl rfl (by decide) (⟨⟨(-1), Or.inl ⟨a2491, rfl, rfl, rfl⟩, rfl⟩, by dsimp only; refine ⟨by omega, ?_⟩; first | assumption | exact Or.inr rfl⟩) rfl gX11_round_0.2.2.2.2.2.2.2.1
def K_p_row (l : Launch) (G : GG) (h0 : Nat) (x1 : Int32) (x2 : Int32) (bb : Nat) (kk : Nat) (ikp : Int32) (sg : Nat) (do9 : Nat) (ru9 : Nat) (ta9 : Nat) (tp9 : Nat) (ro9 : Nat) (ho9 : Nat) (de9 : Nat) (rr : Nat) (tc : Nat) (asd : Int32) (st9 : Int32) (tol : Int32) (rrc : Nat) (kr : Nat) (frr : Nat → Int32) : Prop := MP l G yX11_row cX11_row 3 (some .int) 4 [.ref h0, .int x1, .int x2] [(h0, oX11 bb kk ikp sg do9 ru9 ta9 tp9 ro9 ho9 de9), (ro9, oX5 bb rr tc asd st9 tol), (rr, oX8 7 2 rrc (nI kr)), (rrc, iA G 14 frr)] (fun r : Int32 => r = ifc (Hs x1 kr) (ifc (Wi x2 0 1) (frr (x1.toNatClampNeg * 2 + x2.toNatClampNeg)) (-9)) (-9))
set_option maxHeartbeats 4000000 in
set_option maxRecDepth 100000 in
theorem p_row (l : Launch) (G : GG) (h0 : Nat) (x1 : Int32) (x2 : Int32) (bb : Nat) (kk : Nat) (ikp : Int32) (sg : Nat) (do9 : Nat) (ru9 : Nat) (ta9 : Nat) (tp9 : Nat) (ro9 : Nat) (ho9 : Nat) (de9 : Nat) (rr : Nat) (tc : Nat) (asd : Int32) (st9 : Int32) (tol : Int32) (rrc : Nat) (kr : Nat) (frr : Nat → Int32) (hkr : kr ≤ 7) : K_p_row l G h0 x1 x2 bb kk ikp sg do9 ru9 ta9 tp9 ro9 ho9 de9 rr tc asd st9 tol rrc kr frr := by
  refine MP.start (by decide +kernel) (Nat.le_of_ble_eq_true rfl) ?_
  intro p e s m below meth c ls hC hK hP hD hl
  refine absQ (fun Q0 hQ0 => ?_)
  have hl : lv_has ls 3 [(0, .ref h0), (1, .int x1), (2, .int x2)] := hl
  refine Kan8 hC (fun hx hb hr hml hB hown hlocks hnm => ?_)
  refine lv_aload_n hx hb gX11_row_0.1 rfl (lv_at0 hl) ?_
  refine gf_X11_65 hC rfl hK hP 0 rfl rfl gX11_row_0.2.1 ?_
  refine gf_X11_292 hC rfl hK hP 1 rfl rfl gX11_row_0.2.2.1 ?_
  refine lv_iload_n hx hb gX11_row_0.2.2.2.1 rfl (lv_at1 hl) ?_
  refine pV hC hK hl hP hD (c_T_has l G rr x1 7 2 rrc kr) si_X11_124 [2] sm_2 fm_2 nd_2 rfl rfl rfl rfl rfl (Nat.le_of_ble_eq_true rfl) rm_4_1_2 ⟨by first | exact Nat.le_of_ble_eq_true rfl | exact Nat.zero_le _, by first | exact Nat.le_of_ble_eq_true rfl | exact Nat.zero_le _⟩ gX11_row_0.2.2.2.2.1 (Kors (Keqa fun a2501 => ?_) (Keqa fun a2501 => ?_))
  · refine lv_if_eq (tgt := 23) hx hb gX11_row_0.2.2.2.2.2.1 (by decide) (fun c9 => absurd c9 (by decide)) (fun _ => ?_)
    refine lv_iload_n hx hb gX11_row_0.2.2.2.2.2.2.1 rfl (lv_at2 hl) ?_
    refine lv_iconst (v := 0) hx hb gX11_row_0.2.2.2.2.2.2.2.1 (by decide) ?_
    refine lv_iconst (v := 1) hx hb gX11_row_0.2.2.2.2.2.2.2.2.1 (by decide) ?_
    refine pS hC hK hl (c_within l G x2 0 1) si_X11_83 rfl rfl (Nat.le_of_ble_eq_true rfl) rm_4_1_3 ⟨by first | exact Nat.le_of_ble_eq_true rfl | exact Nat.zero_le _, by first | exact Nat.le_of_ble_eq_true rfl | exact Nat.zero_le _⟩ gX11_row_0.2.2.2.2.2.2.2.2.2 (Kors (Keqa fun a2503 => ?_) (Keqa fun a2503 => ?_))
    · refine lv_if_ne (tgt := 26) hx hb gX11_row_1.1 (by decide) (fun _ => ?_) (fun c9 => absurd c9 (by decide))
      obtain ⟨jr, hjr, rfl⟩ := Hs_nat (by omega) a2501
      obtain ⟨jw, hjw, rfl⟩ := Wi_nat (N := 1) (by decide) a2503
      refine lv_aload_n hx hb gX11_row_1.2.2.2.1 rfl (lv_at0 hl) ?_
      refine gf_X11_65 hC rfl hK hP 0 rfl rfl gX11_row_1.2.2.2.2.1 ?_
      refine gf_X11_292 hC rfl hK hP 1 rfl rfl gX11_row_1.2.2.2.2.2.1 ?_
      refine lv_iload_n hx hb gX11_row_1.2.2.2.2.2.2.1 rfl (lv_at1 hl) ?_
      refine lv_iload_n hx hb gX11_row_1.2.2.2.2.2.2.2.1 rfl (lv_at2 hl) ?_
      refine pV hC hK hl hP hD (c_T_at l G rr (nI jr) (nI jw) 7 2 rrc kr frr (hkr) (by omega) (by omega)) si_X11_128 [2, 3] sm_2_3 fm_2_3 nd_2_3 rfl rfl rfl rfl rfl (Nat.le_of_ble_eq_true rfl) rm_4_1_3 ⟨by first | exact Nat.le_of_ble_eq_true rfl | exact Nat.zero_le _, by first | exact Nat.le_of_ble_eq_true rfl | exact Nat.zero_le _⟩ gX11_row_1.2.2.2.2.2.2.2.2.1 (fun r2504 hr2504 => ?_)
      refine toQ hQ0 ?_
      exact RP (v := r2504) hC ((by rw [show r2504 = frr (jr * 2 + jw) from hr2504.trans (tatr (by omega) (by omega) (by omega) (by decide) rfl)]; simp only [nI_clamp (n := jr) (by omega), nI_clamp (n := jw) (by omega), ifc_t hkr, ifc_t a2501, ifc_t a2503])) rfl gX11_row_1.2.2.2.2.2.2.2.2.2
    · refine lv_if_ne (tgt := 26) hx hb gX11_row_1.1 (by decide) (fun c9 => absurd (by decide) c9) (fun _ => ?_)
      refine lv_bipush (v := (-9)) hx hb gX11_row_1.2.1 (by decide) ?_
      refine toQ hQ0 ?_
      exact RP (v := (-9)) hC ((by first | rfl | (simp only [ifc_t hkr, ifc_t a2501, ifc_f a2503]; done) | (simp only [ifc_t hkr, ifc_t a2501, ifc_f a2503]; rfl))) rfl gX11_row_1.2.2.1
  · refine lv_if_eq (tgt := 23) hx hb gX11_row_0.2.2.2.2.2.1 (by decide) (fun _ => ?_) (fun c9 => absurd (by decide) c9)
    refine lv_bipush (v := (-9)) hx hb gX11_row_1.2.1 (by decide) ?_
    refine toQ hQ0 ?_
    exact RP (v := (-9)) hC ((by first | rfl | (simp only [ifc_t hkr, ifc_f a2501]; done) | (simp only [ifc_t hkr, ifc_f a2501]; rfl))) rfl gX11_row_1.2.2.1
def K_p_alterRow (l : Launch) (G : GG) (h0 : Nat) (x1 : Int32) (x2 : Int32) (x3 : Int32) (bb : Nat) (kk : Nat) (ikp : Int32) (sg : Nat) (do9 : Nat) (ru9 : Nat) (ta9 : Nat) (tp9 : Nat) (ro9 : Nat) (ho9 : Nat) (de9 : Nat) (rr : Nat) (tc : Nat) (asd : Int32) (st9 : Int32) (tol : Int32) (rrc : Nat) (kr : Nat) (frr : Nat → Int32) : Prop := MI l G yX11_alterRow cX11_alterRow 5 (some .int) 4 0 0 [.ref h0, .int x1, .int x2, .int x3] [(h0, oX11 bb kk ikp sg do9 ru9 ta9 tp9 ro9 ho9 de9), (ro9, oX5 bb rr tc asd st9 tol), (rr, oX8 7 2 rrc (nI kr)), (rrc, iA G 14 frr)] (fun (r : Int32) (u : (Nat → Int32)) => (r = ifc (Hs x1 kr) (ifc (Wi x2 0 1) (frr (x1.toNatClampNeg * 2 + x2.toNatClampNeg)) (-9)) (-9)) ∧ (∀ i : Nat, u i = ifc (Hs x1 kr) (ifc (Wi x2 0 1) (upd frr (x1.toNatClampNeg * 2 + x2.toNatClampNeg) x3 i) (frr i)) (frr i))) (fun u : (Nat → Int32) => [(h0, oX11 bb kk ikp sg do9 ru9 ta9 tp9 ro9 ho9 de9), (ro9, oX5 bb rr tc asd st9 tol), (rr, oX8 7 2 rrc (nI kr)), (rrc, iA G 14 u)])
set_option maxHeartbeats 4000000 in
set_option maxRecDepth 100000 in
theorem p_alterRow (l : Launch) (G : GG) (h0 : Nat) (x1 : Int32) (x2 : Int32) (x3 : Int32) (bb : Nat) (kk : Nat) (ikp : Int32) (sg : Nat) (do9 : Nat) (ru9 : Nat) (ta9 : Nat) (tp9 : Nat) (ro9 : Nat) (ho9 : Nat) (de9 : Nat) (rr : Nat) (tc : Nat) (asd : Int32) (st9 : Int32) (tol : Int32) (rrc : Nat) (kr : Nat) (frr : Nat → Int32) (hkr : kr ≤ 7) : K_p_alterRow l G h0 x1 x2 x3 bb kk ikp sg do9 ru9 ta9 tp9 ro9 ho9 de9 rr tc asd st9 tol rrc kr frr := by
  refine MI.start (by decide +kernel) (Nat.le_of_ble_eq_true rfl) ?_
  intro p e s m below meth c A ls hC hK hP hD hS hA hl
  refine absQ (fun Q0 hQ0 => ?_)
  have hl : lv_has ls 5 [(0, .ref h0), (1, .int x1), (2, .int x2), (3, .int x3)] := hl
  refine Kan8 hC (fun hx hb hr hml hB hown hlocks hnm => ?_)
  refine lv_aload_n hx hb gX11_alterRow_0.1 rfl (lv_at0 hl) ?_
  refine gf_X11_65 hC rfl hK hP 0 rfl rfl gX11_alterRow_0.2.1 ?_
  refine gf_X11_292 hC rfl hK hP 1 rfl rfl gX11_alterRow_0.2.2.1 ?_
  refine lv_iload_n hx hb gX11_alterRow_0.2.2.2.1 rfl (lv_at1 hl) ?_
  refine pV hC hK hl hP hD (c_T_has l G rr x1 7 2 rrc kr) si_X11_124 [2] sm_2 fm_2 nd_2 rfl rfl rfl rfl rfl (Nat.le_of_ble_eq_true rfl) rm_4_1_2 ⟨by first | exact Nat.le_of_ble_eq_true rfl | exact Nat.zero_le _, by first | exact Nat.le_of_ble_eq_true rfl | exact Nat.zero_le _⟩ gX11_alterRow_0.2.2.2.2.1 (Kors (Keqa fun a2507 => ?_) (Keqa fun a2507 => ?_))
  · refine lv_if_eq (tgt := 23) hx hb gX11_alterRow_0.2.2.2.2.2.1 (by decide) (fun c9 => absurd c9 (by decide)) (fun _ => ?_)
    refine lv_iload_n hx hb gX11_alterRow_0.2.2.2.2.2.2.1 rfl (lv_at2 hl) ?_
    refine lv_iconst (v := 0) hx hb gX11_alterRow_0.2.2.2.2.2.2.2.1 (by decide) ?_
    refine lv_iconst (v := 1) hx hb gX11_alterRow_0.2.2.2.2.2.2.2.2.1 (by decide) ?_
    refine pS hC hK hl (c_within l G x2 0 1) si_X11_83 rfl rfl (Nat.le_of_ble_eq_true rfl) rm_4_1_3 ⟨by first | exact Nat.le_of_ble_eq_true rfl | exact Nat.zero_le _, by first | exact Nat.le_of_ble_eq_true rfl | exact Nat.zero_le _⟩ gX11_alterRow_0.2.2.2.2.2.2.2.2.2 (Kors (Keqa fun a2509 => ?_) (Keqa fun a2509 => ?_))
    · refine lv_if_ne (tgt := 26) hx hb gX11_alterRow_1.1 (by decide) (fun _ => ?_) (fun c9 => absurd c9 (by decide))
      obtain ⟨jr, hjr, rfl⟩ := Hs_nat (by omega) a2507
      obtain ⟨jw, hjw, rfl⟩ := Wi_nat (N := 1) (by decide) a2509
      refine lv_aload_n hx hb gX11_alterRow_1.2.2.2.1 rfl (lv_at0 hl) ?_
      refine gf_X11_65 hC rfl hK hP 0 rfl rfl gX11_alterRow_1.2.2.2.2.1 ?_
      refine gf_X11_292 hC rfl hK hP 1 rfl rfl gX11_alterRow_1.2.2.2.2.2.1 ?_
      refine lv_iload_n hx hb gX11_alterRow_1.2.2.2.2.2.2.1 rfl (lv_at1 hl) ?_
      refine lv_iload_n hx hb gX11_alterRow_1.2.2.2.2.2.2.2.1 rfl (lv_at2 hl) ?_
      refine pV hC hK hl hP hD (c_T_at l G rr (nI jr) (nI jw) 7 2 rrc kr frr (hkr) (by omega) (by omega)) si_X11_128 [2, 3] sm_2_3 fm_2_3 nd_2_3 rfl rfl rfl rfl rfl (Nat.le_of_ble_eq_true rfl) rm_4_1_3 ⟨by first | exact Nat.le_of_ble_eq_true rfl | exact Nat.zero_le _, by first | exact Nat.le_of_ble_eq_true rfl | exact Nat.zero_le _⟩ gX11_alterRow_1.2.2.2.2.2.2.2.2.1 (fun r2510 hr2510 => ?_)
      refine lv_istore (lv' := [(4, .int r2510), (0, .ref h0), (1, .int (nI jr)), (2, .int (nI jw)), (3, .int x3)]) hx hb gX11_alterRow_1.2.2.2.2.2.2.2.2.2 hl (by decide) rfl (fun ls hl => ?_)
      refine lv_aload_n hx hb gX11_alterRow_2.1 rfl (lv_at1 hl) ?_
      refine gf_X11_65 hC rfl hK hP 0 rfl rfl gX11_alterRow_2.2.1 ?_
      refine gf_X11_292 hC rfl hK hP 1 rfl rfl gX11_alterRow_2.2.2.1 ?_
      refine lv_iload_n hx hb gX11_alterRow_2.2.2.2.1 rfl (lv_at2 hl) ?_
      refine lv_iload_n hx hb gX11_alterRow_2.2.2.2.2.1 rfl (lv_at3 hl) ?_
      refine lv_iload_n hx hb gX11_alterRow_2.2.2.2.2.2.1 rfl (lv_at4 hl) ?_
      refine vV (wr := [(h0, oX11 bb kk ikp sg do9 ru9 ta9 tp9 ro9 ho9 de9), (ro9, oX5 bb rr tc asd st9 tol)]) hC hK hl hP hD hS hA (c_T_set l G rr (nI jr) (nI jw) x3 7 2 rrc kr frr (hkr) (by omega) (by omega)) si_X11_120 [2, 3] [0, 1] sm_2_3 fm_2_3 nd_2_3 sm_0_1 nd_0_1 dj_2_3__0_1 rfl rfl rfl rfl rfl (Nat.le_of_ble_eq_true rfl) rm_4_1_4 ⟨Nat.le_of_ble_eq_true rfl, Nat.le_of_ble_eq_true rfl⟩ gX11_alterRow_2.2.2.2.2.2.2.1 (fun f12514 H locs hr2512 hP hD hS => ?_)
      try dsimp only at hr2512
      refine Kpdr (ws := [(h0, oX11 bb kk ikp sg do9 ru9 ta9 tp9 ro9 ho9 de9), (ro9, oX5 bb rr tc asd st9 tol), (rr, oX8 7 2 rrc (nI kr)), (rrc, iA G 14 f12514)]) hP hD (fun hP hD => ?_)
      have w2515 := hr2512
      refine lv_iload hx hb gX11_alterRow_2.2.2.2.2.2.2.2.1 (lv_at0 hl) ?_
      refine toQ hQ0 ?_
      exact RI (v := r2510) hC hP hD hS [0, 1, 2, 3] f12514 rfl rfl (by decide) (⟨(by rw [show r2510 = frr (jr * 2 + jw) from hr2510.trans (tatr (by omega) (by omega) (by omega) (by decide) rfl)]; simp only [nI_clamp (n := jr) (by omega), nI_clamp (n := jw) (by omega), ifc_t hkr, ifc_t a2507, ifc_t a2509]), (fun i => by simp only [nI_clamp (n := jr) (by omega), nI_clamp (n := jw) (by omega), ifc_t hkr, ifc_t a2507, ifc_t a2509]; exact congrFun (w2515.symm.trans (tsj (by omega) (by omega) (by omega) (by decide) rfl)) i)⟩) rfl gX11_alterRow_2.2.2.2.2.2.2.2.2
    · refine lv_if_ne (tgt := 26) hx hb gX11_alterRow_1.1 (by decide) (fun c9 => absurd (by decide) c9) (fun _ => ?_)
      refine lv_bipush (v := (-9)) hx hb gX11_alterRow_1.2.1 (by decide) ?_
      refine toQ hQ0 ?_
      exact RI (v := (-9)) hC hP hD hS [0, 1, 2, 3] frr rfl rfl (by decide) (⟨(by first | rfl | (simp only [ifc_t hkr, ifc_t a2507, ifc_f a2509]; done) | (simp only [ifc_t hkr, ifc_t a2507, ifc_f a2509]; rfl)), (fun i => by first | rfl | (simp only [ifc_t hkr, ifc_t a2507, ifc_f a2509]; done))⟩) rfl gX11_alterRow_1.2.2.1
  · refine lv_if_eq (tgt := 23) hx hb gX11_alterRow_0.2.2.2.2.2.1 (by decide) (fun _ => ?_) (fun c9 => absurd (by decide) c9)
    refine lv_bipush (v := (-9)) hx hb gX11_alterRow_1.2.1 (by decide) ?_
    refine toQ hQ0 ?_
    exact RI (v := (-9)) hC hP hD hS [0, 1, 2, 3] frr rfl rfl (by decide) (⟨(by first | rfl | (simp only [ifc_t hkr, ifc_f a2507]; done) | (simp only [ifc_t hkr, ifc_f a2507]; rfl)), (fun i => by first | rfl | (simp only [ifc_t hkr, ifc_f a2507]; done))⟩) rfl gX11_alterRow_1.2.2.1
def K_c_T_cutX (l : Launch) (G : GG) (h0 : Nat) (jn : Nat) (R : Nat) (W : Nat) (ca : Nat) (k : Nat) : Prop := MV l G yX8_cut cX8_cut 2 1 0 0 [.ref h0, .int (nI jn)] [(h0, oX8 (nI R) (nI W) ca (nI k))] (fun u : Unit => True) (fun u : Unit => [(h0, oX8 (nI R) (nI W) ca (nI jn))])
set_option maxHeartbeats 4000000 in
set_option maxRecDepth 100000 in
theorem c_T_cutX (l : Launch) (G : GG) (h0 : Nat) (jn : Nat) (R : Nat) (W : Nat) (ca : Nat) (k : Nat) (hjk : jn < k) (hk : k < 2 ^ 31) : K_c_T_cutX l G h0 jn R W ca k := by
  refine MV.start (by decide +kernel) (Nat.le_of_ble_eq_true rfl) ?_
  intro p e s m below meth c A ls hC hK hP hD hS hA hl
  refine absQ (fun Q0 hQ0 => ?_)
  have hl : lv_has ls 2 [(0, .ref h0), (1, .int (nI jn))] := hl
  refine Kan8 hC (fun hx hb hr hml hB hown hlocks hnm => ?_)
  refine lv_iload_n hx hb gX8_cut_0.1 rfl (lv_at1 hl) ?_
  refine lv_if_lt (tgt := 17) hx hb gX8_cut_0.2.1 (by decide) (fun c9 => absurd c9 (nI_pos (by omega))) (fun _ => ?_)
  refine lv_iload_n hx hb gX8_cut_0.2.2.1 rfl (lv_at1 hl) ?_
  refine lv_aload_n hx hb gX8_cut_0.2.2.2.1 rfl (lv_at0 hl) ?_
  refine gf_X8_28 hC rfl hK hP 0 rfl rfl gX8_cut_0.2.2.2.2.1 ?_
  refine lv_icmp_ge (tgt := 17) hx hb gX8_cut_0.2.2.2.2.2.1 (by decide) (fun c9 => absurd c9 (nI_ge (a := jn) (b := k) (by omega) (by omega))) (fun _ => ?_)
  refine lv_aload_n hx hb gX8_cut_0.2.2.2.2.2.2.1 rfl (lv_at0 hl) ?_
  refine lv_iload_n hx hb gX8_cut_0.2.2.2.2.2.2.2.1 rfl (lv_at1 hl) ?_
  refine pf_X8_28 hC rfl hK hP hD hS 0 (ws' := [(h0, oX8 (nI R) (nI W) ca (nI jn))]) rfl (Nat.le_of_ble_eq_true rfl) rfl rfl rfl gX8_cut_0.2.2.2.2.2.2.2.2.1 (fun H locs hP hD hS => ?_)
  refine toQ hQ0 ?_
  exact RV hC hP hD hS [0] () rfl rfl (by decide) (trivial) gX8_cut_0.2.2.2.2.2.2.2.2.2
def K_p_dropRow (l : Launch) (G : GG) (h0 : Nat) (bb : Nat) (kk : Nat) (ikp : Int32) (sg : Nat) (do9 : Nat) (ru9 : Nat) (ta9 : Nat) (tp9 : Nat) (ro9 : Nat) (ho9 : Nat) (de9 : Nat) (rr : Nat) (tc : Nat) (asd : Int32) (st9 : Int32) (tol : Int32) (rrc : Nat) (kr : Nat) : Prop := MI l G yX11_dropRow cX11_dropRow 1 (some .int) 4 0 0 [.ref h0] [(h0, oX11 bb kk ikp sg do9 ru9 ta9 tp9 ro9 ho9 de9), (ro9, oX5 bb rr tc asd st9 tol), (rr, oX8 7 2 rrc (nI kr))] (fun (r : Int32) (u : Nat) => (r = ifc (nI kr = 0) (-3) (nI (kr - 1))) ∧ (u ≤ 7 ∧ u = kr - 1)) (fun u : Nat => [(h0, oX11 bb kk ikp sg do9 ru9 ta9 tp9 ro9 ho9 de9), (ro9, oX5 bb rr tc asd st9 tol), (rr, oX8 7 2 rrc (nI u))])
set_option maxHeartbeats 4000000 in
set_option maxRecDepth 100000 in
theorem p_dropRow (l : Launch) (G : GG) (h0 : Nat) (bb : Nat) (kk : Nat) (ikp : Int32) (sg : Nat) (do9 : Nat) (ru9 : Nat) (ta9 : Nat) (tp9 : Nat) (ro9 : Nat) (ho9 : Nat) (de9 : Nat) (rr : Nat) (tc : Nat) (asd : Int32) (st9 : Int32) (tol : Int32) (rrc : Nat) (kr : Nat) (hkr : kr ≤ 7) : K_p_dropRow l G h0 bb kk ikp sg do9 ru9 ta9 tp9 ro9 ho9 de9 rr tc asd st9 tol rrc kr := by
  refine MI.start (by decide +kernel) (Nat.le_of_ble_eq_true rfl) ?_
  intro p e s m below meth c A ls hC hK hP hD hS hA hl
  refine absQ (fun Q0 hQ0 => ?_)
  have hl : lv_has ls 1 [(0, .ref h0)] := hl
  refine Kan8 hC (fun hx hb hr hml hB hown hlocks hnm => ?_)
  refine lv_aload_n hx hb gX11_dropRow_0.1 rfl (lv_at0 hl) ?_
  refine gf_X11_65 hC rfl hK hP 0 rfl rfl gX11_dropRow_0.2.1 ?_
  refine gf_X11_292 hC rfl hK hP 1 rfl rfl gX11_dropRow_0.2.2.1 ?_
  refine pV hC hK hl hP hD (c_T_count l G rr 7 2 rrc kr) si_X11_174 [2] sm_2 fm_2 nd_2 rfl rfl rfl rfl rfl (Nat.le_of_ble_eq_true rfl) rm_4_1_1 ⟨by first | exact Nat.le_of_ble_eq_true rfl | exact Nat.zero_le _, by first | exact Nat.le_of_ble_eq_true rfl | exact Nat.zero_le _⟩ gX11_dropRow_0.2.2.2.1 (Keqr ?_)
  refine lv_if_ne (tgt := 16) hx hb gX11_dropRow_0.2.2.2.2.1 (by decide) (fun c_10_2518 => ?_) (fun c_10_2518 => ?_)
  · have hkr1 := c_nz c_10_2518
    refine lv_aload_n hx hb gX11_dropRow_0.2.2.2.2.2.2.2.1 rfl (lv_at0 hl) ?_
    refine gf_X11_65 hC rfl hK hP 0 rfl rfl gX11_dropRow_0.2.2.2.2.2.2.2.2.1 ?_
    refine gf_X11_292 hC rfl hK hP 1 rfl rfl gX11_dropRow_0.2.2.2.2.2.2.2.2.2 ?_
    refine lv_aload_n hx hb gX11_dropRow_1.1 rfl (lv_at0 hl) ?_
    refine gf_X11_65 hC rfl hK hP 0 rfl rfl gX11_dropRow_1.2.1 ?_
    refine gf_X11_292 hC rfl hK hP 1 rfl rfl gX11_dropRow_1.2.2.1 ?_
    refine pV hC hK hl hP hD (c_T_count l G rr 7 2 rrc kr) si_X11_174 [2] sm_2 fm_2 nd_2 rfl rfl rfl rfl rfl (Nat.le_of_ble_eq_true rfl) rm_4_1_1 ⟨by first | exact Nat.le_of_ble_eq_true rfl | exact Nat.zero_le _, by first | exact Nat.le_of_ble_eq_true rfl | exact Nat.zero_le _⟩ gX11_dropRow_1.2.2.2.1 (Keqr ?_)
    refine lv_iconst (v := 1) hx hb gX11_dropRow_1.2.2.2.2.1 (by decide) ?_
    refine lv_isub hx hb gX11_dropRow_1.2.2.2.2.2.1 ?_
    refine eqi (x1 := nI (kr - 1)) (c_sb (by omega)) ?_
    refine vV (wr := [(h0, oX11 bb kk ikp sg do9 ru9 ta9 tp9 ro9 ho9 de9), (ro9, oX5 bb rr tc asd st9 tol)]) hC hK hl hP hD hS hA (c_T_cutX l G rr (kr - 1) 7 2 rrc kr (by omega) (by omega)) si_X11_295 [2] [0, 1] sm_2 fm_2 nd_2 sm_0_1 nd_0_1 dj_2__0_1 rfl rfl rfl rfl rfl (Nat.le_of_ble_eq_true rfl) rm_4_1_2 ⟨Nat.le_of_ble_eq_true rfl, Nat.le_of_ble_eq_true rfl⟩ gX11_dropRow_1.2.2.2.2.2.2.1 (fun u2522 H locs hr2521 hP hD hS => ?_)
    refine Kpdr (ws := [(h0, oX11 bb kk ikp sg do9 ru9 ta9 tp9 ro9 ho9 de9), (ro9, oX5 bb rr tc asd st9 tol), (rr, oX8 7 2 rrc (nI (kr - 1)))]) hP hD (fun hP hD => ?_)
    refine lv_aload_n hx hb gX11_dropRow_1.2.2.2.2.2.2.2.1 rfl (lv_at0 hl) ?_
    refine gf_X11_65 hC rfl hK hP 0 rfl rfl gX11_dropRow_1.2.2.2.2.2.2.2.2.1 ?_
    refine gf_X11_292 hC rfl hK hP 1 rfl rfl gX11_dropRow_1.2.2.2.2.2.2.2.2.2 ?_
    refine pV hC hK hl hP hD (c_T_count l G rr 7 2 rrc (kr - 1)) si_X11_174 [2] sm_2 fm_2 nd_2 rfl rfl rfl rfl rfl (Nat.le_of_ble_eq_true rfl) rm_4_1_1 ⟨by first | exact Nat.le_of_ble_eq_true rfl | exact Nat.zero_le _, by first | exact Nat.le_of_ble_eq_true rfl | exact Nat.zero_le _⟩ gX11_dropRow_2.1 (Keqr ?_)
    refine toQ hQ0 ?_
    exact RI (v := nI (kr - 1)) hC hP hD hS [0, 1, 2] (kr - 1) rfl rfl (by decide) (⟨(ifc_f c_10_2518).symm, ⟨by omega, rfl⟩⟩) rfl gX11_dropRow_2.2
  · refine lv_bipush (v := (-3)) hx hb gX11_dropRow_0.2.2.2.2.2.1 (by decide) ?_
    refine toQ hQ0 ?_
    exact RI (v := (-3)) hC hP hD hS [0, 1, 2] kr rfl rfl (by decide) (⟨(ifc_t c_10_2518).symm, ⟨by omega, (by have h9 := (nI_eq (b := 0) (by omega) (by decide)).mp c_10_2518; omega)⟩⟩) rfl gX11_dropRow_0.2.2.2.2.2.2.1
def K_p_judge (l : Launch) (G : GG) (h0 : Nat) (bb : Nat) (kk : Nat) (ikp : Int32) (sg : Nat) (do9 : Nat) (ru9 : Nat) (ta9 : Nat) (tp9 : Nat) (ro9 : Nat) (ho9 : Nat) (de9 : Nat) (bpersons : Nat) (bpapers : Nat) (bstamps : Nat) (bversions : Nat) (blines : Nat) (bsteps : Nat) (bsayings : Nat) (bfindings : Nat) (bwarnings : Nat) (bquestions : Nat) (td : Int32) (vd : Int32) (vl : Int32) (gp : Int32) (rr : Nat) (tc : Nat) (asd : Int32) (st9 : Int32) (tol : Int32) (rrc : Nat) (kr : Nat) (frr : Nat → Int32) (bquestionsc : Nat) (kbquestions : Nat) (fbquestions : Nat → Int32) : Prop := MP l G yX11_judge cX11_judge 1 (some .int) 6 [.ref h0] [(h0, oX11 bb kk ikp sg do9 ru9 ta9 tp9 ro9 ho9 de9), (bb, oX0 bpersons bpapers bstamps bversions blines bsteps bsayings bfindings bwarnings bquestions td vd vl gp), (ro9, oX5 bb rr tc asd st9 tol), (rr, oX8 7 2 rrc (nI kr)), (rrc, iA G 14 frr), (bquestions, oX8 7 2 bquestionsc (nI kbquestions)), (bquestionsc, iA G 14 fbquestions)] (fun r : Int32 => True)
set_option maxHeartbeats 4000000 in
set_option maxRecDepth 100000 in
theorem p_judge (l : Launch) (G : GG) (h0 : Nat) (bb : Nat) (kk : Nat) (ikp : Int32) (sg : Nat) (do9 : Nat) (ru9 : Nat) (ta9 : Nat) (tp9 : Nat) (ro9 : Nat) (ho9 : Nat) (de9 : Nat) (bpersons : Nat) (bpapers : Nat) (bstamps : Nat) (bversions : Nat) (blines : Nat) (bsteps : Nat) (bsayings : Nat) (bfindings : Nat) (bwarnings : Nat) (bquestions : Nat) (td : Int32) (vd : Int32) (vl : Int32) (gp : Int32) (rr : Nat) (tc : Nat) (asd : Int32) (st9 : Int32) (tol : Int32) (rrc : Nat) (kr : Nat) (frr : Nat → Int32) (bquestionsc : Nat) (kbquestions : Nat) (fbquestions : Nat → Int32) (hkr : kr ≤ 7) (hkbquestions : kbquestions ≤ 7) (htol : tol = 0 ∨ tol = 1) : K_p_judge l G h0 bb kk ikp sg do9 ru9 ta9 tp9 ro9 ho9 de9 bpersons bpapers bstamps bversions blines bsteps bsayings bfindings bwarnings bquestions td vd vl gp rr tc asd st9 tol rrc kr frr bquestionsc kbquestions fbquestions := by
  refine MP.start (by decide +kernel) (Nat.le_of_ble_eq_true rfl) ?_
  intro p e s m below meth c ls hC hK hP hD hl
  refine absQ (fun Q0 hQ0 => ?_)
  have hl : lv_has ls 1 [(0, .ref h0)] := hl
  refine Kan8 hC (fun hx hb hr hml hB hown hlocks hnm => ?_)
  refine lv_aload_n hx hb gX11_judge_0.1 rfl (lv_at0 hl) ?_
  refine gf_X11_65 hC rfl hK hP 0 rfl rfl gX11_judge_0.2.1 ?_
  refine pV hC hK hl hP hD (c_isTold l G ro9 bb rr tc asd st9 tol (htol)) si_X11_298 [2] sm_2 fm_2 nd_2 rfl rfl rfl rfl rfl (Nat.le_of_ble_eq_true rfl) rm_6_1_1 ⟨by first | exact Nat.le_of_ble_eq_true rfl | exact Nat.zero_le _, by first | exact Nat.le_of_ble_eq_true rfl | exact Nat.zero_le _⟩ gX11_judge_0.2.2.1 (Kors (Keqa fun a2526 => ?_) (Keqa fun a2526 => ?_))
  · refine lv_if_ne (tgt := 13) hx hb gX11_judge_0.2.2.2.1 (by decide) (fun _ => ?_) (fun c9 => absurd c9 (by decide))
    refine lv_aload_n hx hb gX11_judge_0.2.2.2.2.2.2.1 rfl (lv_at0 hl) ?_
    refine gf_X11_65 hC rfl hK hP 0 rfl rfl gX11_judge_0.2.2.2.2.2.2.2.1 ?_
    refine pV hC hK hl hP hD (c_firstWrong l G ro9 bb rr tc asd st9 tol rrc kr frr bpersons bpapers bstamps bversions blines bsteps bsayings bfindings bwarnings bquestions td vd vl gp bquestionsc kbquestions fbquestions (hkr) (hkbquestions)) si_X11_301 [2, 3, 4, 1, 5, 6] sm_2_3_4_1_5_6 fm_2_3_4_1_5_6 nd_2_3_4_1_5_6 rfl rfl rfl rfl rfl (Nat.le_of_ble_eq_true rfl) rm_6_4_5 ⟨by first | exact Nat.le_of_ble_eq_true rfl | exact Nat.zero_le _, by first | exact Nat.le_of_ble_eq_true rfl | exact Nat.zero_le _⟩ gX11_judge_0.2.2.2.2.2.2.2.2.1 (fun r2527 hr2527 => ?_)
    refine lv_iconst (v := 1) hx hb gX11_judge_0.2.2.2.2.2.2.2.2.2 (by decide) ?_
    refine lv_iadd hx hb gX11_judge_1.1 ?_
    refine toQ hQ0 ?_
    exact RP (v := r2527 + 1) hC (trivial) rfl gX11_judge_1.2
  · refine lv_if_ne (tgt := 13) hx hb gX11_judge_0.2.2.2.1 (by decide) (fun c9 => absurd (by decide) c9) (fun _ => ?_)
    refine lv_bipush (v := (-3)) hx hb gX11_judge_0.2.2.2.2.1 (by decide) ?_
    refine toQ hQ0 ?_
    exact RP (v := (-3)) hC (trivial) rfl gX11_judge_0.2.2.2.2.2.1
def K_c_clearX (l : Launch) (G : GG) (h0 : Nat) (js : Nat) (hs : Nat) (hz : Nat) (hi : Nat) (hw : Nat) (hn : Nat) (ht : Nat) (fhs : Nat → Int32) (fhz : Nat → Int32) : Prop := MV l G yX4_clear cX4_clear 2 3 0 0 [.ref h0, .int (nI js)] [(h0, oX4 hs hz hi hw hn ht), (hs, iA G 4 fhs), (hz, iA G 4 fhz)] (fun u : Unit => True) (fun u : Unit => [(h0, oX4 hs hz hi hw hn ht), (hs, iA G 4 (upd fhs js (-1))), (hz, iA G 4 (upd fhz js 0))])
set_option maxHeartbeats 4000000 in
set_option maxRecDepth 100000 in
theorem c_clearX (l : Launch) (G : GG) (h0 : Nat) (js : Nat) (hs : Nat) (hz : Nat) (hi : Nat) (hw : Nat) (hn : Nat) (ht : Nat) (fhs : Nat → Int32) (fhz : Nat → Int32) (hjs : js < 4) : K_c_clearX l G h0 js hs hz hi hw hn ht fhs fhz := by
  refine MV.start (by decide +kernel) (Nat.le_of_ble_eq_true rfl) ?_
  intro p e s m below meth c A ls hC hK hP hD hS hA hl
  refine absQ (fun Q0 hQ0 => ?_)
  have hl : lv_has ls 2 [(0, .ref h0), (1, .int (nI js))] := hl
  refine Kan8 hC (fun hx hb hr hml hB hown hlocks hnm => ?_)
  have wj1 : Wi (nI js) 0 3 := Wi_j (N := 3) rfl (by decide) (by omega)
  refine lv_iload_n hx hb gX4_clear_0.1 rfl (lv_at1 hl) ?_
  refine pSN hC hK hl (c_isSheet l G (nI js)) si_X4_30 rfl rfl (Nat.le_of_ble_eq_true rfl) rm_3_2_1 ⟨by first | exact Nat.le_of_ble_eq_true rfl | exact Nat.zero_le _, by first | exact Nat.le_of_ble_eq_true rfl | exact Nat.zero_le _⟩ gX4_clear_0.2.1 (Kors (Keqa fun a2529 => ?_) (Keqa fun a2529 => ?_))
  · refine lv_if_ne (tgt := 8) hx hb gX4_clear_0.2.2.1 (by decide) (fun _ => ?_) (fun c9 => absurd c9 (by decide))
    refine lv_aload_n hx hb gX4_clear_0.2.2.2.2.1 rfl (lv_at0 hl) ?_
    refine gf_X4_11 hC rfl hK hP 0 rfl rfl gX4_clear_0.2.2.2.2.2.1 ?_
    refine lv_iload_n hx hb gX4_clear_0.2.2.2.2.2.2.1 rfl (lv_at1 hl) ?_
    refine lv_iconst (v := (-1)) hx hb gX4_clear_0.2.2.2.2.2.2.2.1 (by decide) ?_
    refine astN hC hK hP hD hS 1 (ws' := [(h0, oX4 hs hz hi hw hn ht), (hs, iA G 4 (upd fhs js (-1))), (hz, iA G 4 fhz)]) rfl (k := js) (by omega) (Nat.le_of_ble_eq_true rfl) (rfl) gX4_clear_0.2.2.2.2.2.2.2.2.1 (fun H locs hP hD hS => ?_)
    refine lv_aload_n hx hb gX4_clear_0.2.2.2.2.2.2.2.2.2 rfl (lv_at0 hl) ?_
    refine gf_X4_15 hC rfl hK hP 0 rfl rfl gX4_clear_1.1 ?_
    refine lv_iload_n hx hb gX4_clear_1.2.1 rfl (lv_at1 hl) ?_
    refine lv_iconst (v := 0) hx hb gX4_clear_1.2.2.1 (by decide) ?_
    refine astN hC hK hP hD hS 2 (ws' := [(h0, oX4 hs hz hi hw hn ht), (hs, iA G 4 (upd fhs js (-1))), (hz, iA G 4 (upd fhz js 0))]) rfl (k := js) (by omega) (Nat.le_of_ble_eq_true rfl) (rfl) gX4_clear_1.2.2.2.1 (fun H locs hP hD hS => ?_)
    refine toQ hQ0 ?_
    exact RV hC hP hD hS [0, 1, 2] () rfl rfl (by decide) (trivial) gX4_clear_1.2.2.2.2
  · exact absurd wj1 a2529
def K_c_layX (l : Launch) (G : GG) (h0 : Nat) (js : Nat) (so : Int32) (jn : Nat) (hs : Nat) (hz : Nat) (hi : Nat) (hw : Nat) (hn : Nat) (ht : Nat) (fhs : Nat → Int32) (fhz : Nat → Int32) (fhi : Nat → Int32) : Prop := MV l G yX4_lay cX4_lay 5 3 0 0 [.ref h0, .int (nI js), .int so, .int (nI jn)] [(h0, oX4 hs hz hi hw hn ht), (hs, iA G 4 fhs), (hz, iA G 4 fhz), (hi, iA G 160 fhi)] (fun u : (Nat → Int32) => ZR fhi u js 40) (fun u : (Nat → Int32) => [(h0, oX4 hs hz hi hw hn ht), (hs, iA G 4 (upd fhs js so)), (hz, iA G 4 (upd fhz js (nI jn))), (hi, iA G 160 u)])
set_option maxHeartbeats 4000000 in
set_option maxRecDepth 100000 in
theorem c_layX (l : Launch) (G : GG) (h0 : Nat) (js : Nat) (so : Int32) (jn : Nat) (hs : Nat) (hz : Nat) (hi : Nat) (hw : Nat) (hn : Nat) (ht : Nat) (fhs : Nat → Int32) (fhz : Nat → Int32) (fhi : Nat → Int32) (hjs : js < 4) (hjn : jn ≤ 40) : K_c_layX l G h0 js so jn hs hz hi hw hn ht fhs fhz fhi := by
  refine MV.start (by decide +kernel) (Nat.le_of_ble_eq_true rfl) ?_
  intro p e s m below meth c A ls hC hK hP hD hS hA hl
  refine absQ (fun Q0 hQ0 => ?_)
  have hl : lv_has ls 5 [(0, .ref h0), (1, .int (nI js)), (2, .int so), (3, .int (nI jn))] := hl
  refine Kan8 hC (fun hx hb hr hml hB hown hlocks hnm => ?_)
  have wj1 : Wi (nI js) 0 3 := Wi_j (N := 3) rfl (by decide) (by omega)
  have wj2 : Wi (nI jn) 0 40 := Wi_j (N := 40) rfl (by decide) (by omega)
  refine lv_iload_n hx hb gX4_lay_0.1 rfl (lv_at1 hl) ?_
  refine pSN hC hK hl (c_isSheet l G (nI js)) si_X4_30 rfl rfl (Nat.le_of_ble_eq_true rfl) rm_3_2_1 ⟨by first | exact Nat.le_of_ble_eq_true rfl | exact Nat.zero_le _, by first | exact Nat.le_of_ble_eq_true rfl | exact Nat.zero_le _⟩ gX4_lay_0.2.1 (Kors (Keqa fun a2531 => ?_) (Keqa fun a2531 => ?_))
  · refine lv_if_eq (tgt := 17) hx hb gX4_lay_0.2.2.1 (by decide) (fun c9 => absurd c9 (by decide)) (fun _ => ?_)
    refine lv_iload_n hx hb gX4_lay_0.2.2.2.1 rfl (lv_at3 hl) ?_
    refine lv_iconst (v := 0) hx hb gX4_lay_0.2.2.2.2.1 (by decide) ?_
    refine lv_bipush (v := 40) hx hb gX4_lay_0.2.2.2.2.2.1 (by decide) ?_
    refine pSN hC hK hl (c_within l G (nI jn) 0 40) si_X4_34 rfl rfl (Nat.le_of_ble_eq_true rfl) rm_3_1_3 ⟨by first | exact Nat.le_of_ble_eq_true rfl | exact Nat.zero_le _, by first | exact Nat.le_of_ble_eq_true rfl | exact Nat.zero_le _⟩ gX4_lay_0.2.2.2.2.2.2.1 (Kors (Keqa fun a2533 => ?_) (Keqa fun a2533 => ?_))
    · refine lv_if_ne (tgt := 18) hx hb gX4_lay_0.2.2.2.2.2.2.2.1 (by decide) (fun _ => ?_) (fun c9 => absurd c9 (by decide))
      refine lv_aload_n hx hb gX4_lay_0.2.2.2.2.2.2.2.2.2 rfl (lv_at0 hl) ?_
      refine gf_X4_11 hC rfl hK hP 0 rfl rfl gX4_lay_1.1 ?_
      refine lv_iload_n hx hb gX4_lay_1.2.1 rfl (lv_at1 hl) ?_
      refine lv_iload_n hx hb gX4_lay_1.2.2.1 rfl (lv_at2 hl) ?_
      refine astN hC hK hP hD hS 1 (ws' := [(h0, oX4 hs hz hi hw hn ht), (hs, iA G 4 (upd fhs js so)), (hz, iA G 4 fhz), (hi, iA G 160 fhi)]) rfl (k := js) (by omega) (Nat.le_of_ble_eq_true rfl) (rfl) gX4_lay_1.2.2.2.1 (fun H locs hP hD hS => ?_)
      refine lv_aload_n hx hb gX4_lay_1.2.2.2.2.1 rfl (lv_at0 hl) ?_
      refine gf_X4_15 hC rfl hK hP 0 rfl rfl gX4_lay_1.2.2.2.2.2.1 ?_
      refine lv_iload_n hx hb gX4_lay_1.2.2.2.2.2.2.1 rfl (lv_at1 hl) ?_
      refine lv_iload_n hx hb gX4_lay_1.2.2.2.2.2.2.2.1 rfl (lv_at3 hl) ?_
      refine astN hC hK hP hD hS 2 (ws' := [(h0, oX4 hs hz hi hw hn ht), (hs, iA G 4 (upd fhs js so)), (hz, iA G 4 (upd fhz js (nI jn))), (hi, iA G 160 fhi)]) rfl (k := js) (by omega) (Nat.le_of_ble_eq_true rfl) (rfl) gX4_lay_1.2.2.2.2.2.2.2.2.1 (fun H locs hP hD hS => ?_)
      refine lv_iconst (v := 0) hx hb gX4_lay_1.2.2.2.2.2.2.2.2.2 (by decide) ?_
      refine lv_istore (lv' := [(4, .int 0), (0, .ref h0), (1, .int (nI js)), (2, .int so), (3, .int (nI jn))]) hx hb gX4_lay_2.1 hl (by decide) rfl (fun ls hl => ?_)
      have keyP : ∀ (nP kP : Nat) (vhi : Nat → Int32) (H : Heap) (locs : List Loc) (ls : Array Slot), kP + nP = 40 → (ZR fhi vhi js kP) → va_PD G A [(h0, oX4 hs hz hi hw hn ht), (hs, iA G 4 (upd fhs js so)), (hz, iA G 4 (upd fhz js (nI jn))), (hi, iA G 160 vhi)] H → va_S A s.heap H locs → lv_has ls 5 [(4, .int (nI kP)), (0, .ref h0), (1, .int (nI js)), (2, .int so), (3, .int (nI jn))] → W p l e (RM 3 0 0) s m ([.ref h0, .int (nI js), .int so, .int (nI jn)] : List Value).toArray below meth c H locs 0 0 Q0 (F0 m 35 ls []) := by
        intro nP
        induction nP with
        | zero =>
          intro kP vhi H locs ls hkP hzr hPD hS hl
          refine Kan2 hPD (fun hP hD => ?_)
          obtain rfl : 40 = kP := by omega
          have hl : lv_has ls 5 [(4, .int 40), (0, .ref h0), (1, .int (nI js)), (2, .int so), (3, .int (nI jn))] := hl
          refine lv_iload hx hb gX4_lay_2.2.1 (lv_at0 hl) ?_
          refine lv_bipush (v := 40) hx hb gX4_lay_2.2.2.1 (by decide) ?_
          refine lv_icmp_ge (tgt := 61) hx hb gX4_lay_2.2.2.2.1 (by decide) (fun _ => ?_) (fun c9 => absurd (by decide) c9)
          refine toQ hQ0 ?_
          exact RV hC hP hD hS [0, 1, 2, 3] vhi rfl rfl (by decide) (hzr) gX4_lay_3.2.2.2.2.2
        | succ nP ihP =>
          intro kP vhi H locs ls hkP hzr hPD hS hl
          refine Kan2 hPD (fun hP hD => ?_)
          refine lv_iload hx hb gX4_lay_2.2.1 (lv_at0 hl) ?_
          refine lv_bipush (v := 40) hx hb gX4_lay_2.2.2.1 (by decide) ?_
          refine lv_icmp_ge (tgt := 61) hx hb gX4_lay_2.2.2.2.1 (by decide) (fun c9 => absurd c9 (nI_ge (a := kP) (b := 40) (by omega) (by omega))) (fun _ => ?_)
          refine lv_aload_n hx hb gX4_lay_2.2.2.2.2.1 rfl (lv_at1 hl) ?_
          refine gf_X4_18 hC rfl hK hP 0 rfl rfl gX4_lay_2.2.2.2.2.2.1 ?_
          refine lv_iload_n hx hb gX4_lay_2.2.2.2.2.2.2.1 rfl (lv_at2 hl) ?_
          refine lv_bipush (v := 40) hx hb gX4_lay_2.2.2.2.2.2.2.2.1 (by decide) ?_
          refine lv_imul hx hb gX4_lay_2.2.2.2.2.2.2.2.2.1 ?_
          refine lv_iload hx hb gX4_lay_2.2.2.2.2.2.2.2.2.2 (lv_at0 hl) ?_
          refine lv_iadd hx hb gX4_lay_3.1 ?_
          refine lv_iconst (v := 0) hx hb gX4_lay_3.2.1 (by decide) ?_
          refine ast hC hK hP hD hS 3 (ws' := [(h0, oX4 hs hz hi hw hn ht), (hs, iA G 4 (upd fhs js so)), (hz, iA G 4 (upd fhz js (nI jn))), (hi, iA G 160 (upd vhi (js * 40 + kP) 0))]) rfl ((ix160 (a := js) (b := kP) (by omega) (by omega)).1) (k := js * 40 + kP) (ix160 (by omega) (by omega)).2 (rfl) gX4_lay_3.2.2.1 (fun H locs hP hD hS => ?_)
          refine lv_iinc (v := nI (kP + 1)) (lv' := [(4, .int (nI (kP + 1))), (0, .ref h0), (1, .int (nI js)), (2, .int so), (3, .int (nI jn))]) hx hb gX4_lay_3.2.2.2.1 hl (k := 0) rfl (nI_1 _) (by decide) rfl (fun ls hl => ?_)
          refine lv_goto (tgt := 35) hx hb gX4_lay_3.2.2.2.2.1 (by decide) ?_
          exact ihP (kP + 1) (upd vhi (js * 40 + kP) 0) _ _ _ (by omega) (by first | assumption | exact Or.inl rfl | exact Or.inr rfl | exact ZR.zero | exact ZR.next hzr rfl) (And.intro hP hD) hS (lv_sub hl [0, 1, 2, 3, 4] rfl)
      exact keyP 40 0 fhi _ _ _ (by omega) (by first | assumption | exact Or.inl rfl | exact Or.inr rfl | exact ZR.zero | exact ZR.next hzr rfl) (And.intro hP hD) hS (lv_sub hl [0, 1, 2, 3, 4] rfl)
    · exact absurd wj2 a2533
  · exact absurd wj1 a2531
def K_p_sheet (l : Launch) (G : GG) (h0 : Nat) (x1 : Int32) (x2 : Int32) (x3 : Int32) (bb : Nat) (kk : Nat) (ikp : Int32) (sg : Nat) (do9 : Nat) (ru9 : Nat) (ta9 : Nat) (tp9 : Nat) (ro9 : Nat) (ho9 : Nat) (de9 : Nat) (hs : Nat) (hz : Nat) (hi : Nat) (hw : Nat) (hn : Nat) (ht : Nat) (fhs : Nat → Int32) (fhz : Nat → Int32) (fhi : Nat → Int32) : Prop := MI l G yX11_sheet cX11_sheet 4 (some .int) 5 0 0 [.ref h0, .int x1, .int x2, .int x3] [(h0, oX11 bb kk ikp sg do9 ru9 ta9 tp9 ro9 ho9 de9), (ho9, oX4 hs hz hi hw hn ht), (hs, iA G 4 fhs), (hz, iA G 4 fhz), (hi, iA G 160 fhi)] (fun (r : Int32) (u : (Nat → Int32) × (Nat → Int32) × (Nat → Int32)) => (r = ifc (Wi x1 0 3) (ifc (Wi x2 (-1) 4) (ifc (x2 < 0) 1 (ifc (x3 ≤ 40) (ifc (x3 < 0) (-14) 1) (-1))) (-1)) (-1)) ∧ ((S0 x1 x2 → u.1 = upd fhs x1.toNatClampNeg x2 ∧ u.2.1 = upd fhz x1.toNatClampNeg 0 ∧ ZQ fhi u.2.2 x1.toNatClampNeg) ∧ (S1 x1 x2 x3 → u.1 = upd fhs x1.toNatClampNeg x2 ∧ u.2.1 = upd fhz x1.toNatClampNeg x3 ∧ ZR fhi u.2.2 x1.toNatClampNeg 40) ∧ (¬ S0 x1 x2 → ¬ S1 x1 x2 x3 → u.1 = fhs ∧ u.2.1 = fhz ∧ u.2.2 = fhi))) (fun u : (Nat → Int32) × (Nat → Int32) × (Nat → Int32) => [(h0, oX11 bb kk ikp sg do9 ru9 ta9 tp9 ro9 ho9 de9), (ho9, oX4 hs hz hi hw hn ht), (hs, iA G 4 u.1), (hz, iA G 4 u.2.1), (hi, iA G 160 u.2.2)])
set_option maxHeartbeats 4000000 in
set_option maxRecDepth 100000 in
theorem p_sheet (l : Launch) (G : GG) (h0 : Nat) (x1 : Int32) (x2 : Int32) (x3 : Int32) (bb : Nat) (kk : Nat) (ikp : Int32) (sg : Nat) (do9 : Nat) (ru9 : Nat) (ta9 : Nat) (tp9 : Nat) (ro9 : Nat) (ho9 : Nat) (de9 : Nat) (hs : Nat) (hz : Nat) (hi : Nat) (hw : Nat) (hn : Nat) (ht : Nat) (fhs : Nat → Int32) (fhz : Nat → Int32) (fhi : Nat → Int32) : K_p_sheet l G h0 x1 x2 x3 bb kk ikp sg do9 ru9 ta9 tp9 ro9 ho9 de9 hs hz hi hw hn ht fhs fhz fhi := by
  refine MI.start (by decide +kernel) (Nat.le_of_ble_eq_true rfl) ?_
  intro p e s m below meth c A ls hC hK hP hD hS hA hl
  refine absQ (fun Q0 hQ0 => ?_)
  have hl : lv_has ls 4 [(0, .ref h0), (1, .int x1), (2, .int x2), (3, .int x3)] := hl
  refine Kan8 hC (fun hx hb hr hml hB hown hlocks hnm => ?_)
  refine lv_iload_n hx hb gX11_sheet_0.1 rfl (lv_at1 hl) ?_
  refine pS hC hK hl (c_isSheet l G x1) si_X11_164 rfl rfl (Nat.le_of_ble_eq_true rfl) rm_5_2_1 ⟨by first | exact Nat.le_of_ble_eq_true rfl | exact Nat.zero_le _, by first | exact Nat.le_of_ble_eq_true rfl | exact Nat.zero_le _⟩ gX11_sheet_0.2.1 (Kors (Keqa fun a2535 => ?_) (Keqa fun a2535 => ?_))
  · refine lv_if_eq (tgt := 16) hx hb gX11_sheet_0.2.2.1 (by decide) (fun c9 => absurd c9 (by decide)) (fun _ => ?_)
    refine lv_iload_n hx hb gX11_sheet_0.2.2.2.1 rfl (lv_at2 hl) ?_
    refine lv_iconst (v := (-1)) hx hb gX11_sheet_0.2.2.2.2.1 (by decide) ?_
    refine lv_iconst (v := 4) hx hb gX11_sheet_0.2.2.2.2.2.1 (by decide) ?_
    refine pS hC hK hl (c_within l G x2 (-1) 4) si_X11_83 rfl rfl (Nat.le_of_ble_eq_true rfl) rm_5_1_3 ⟨by first | exact Nat.le_of_ble_eq_true rfl | exact Nat.zero_le _, by first | exact Nat.le_of_ble_eq_true rfl | exact Nat.zero_le _⟩ gX11_sheet_0.2.2.2.2.2.2.1 (Kors (Keqa fun a2537 => ?_) (Keqa fun a2537 => ?_))
    · refine lv_if_ne (tgt := 18) hx hb gX11_sheet_0.2.2.2.2.2.2.2.1 (by decide) (fun _ => ?_) (fun c9 => absurd c9 (by decide))
      obtain ⟨jt, hjt, rfl⟩ := Wi3 a2535
      refine lv_iload_n hx hb gX11_sheet_1.1 rfl (lv_at2 hl) ?_
      refine lv_iconst (v := (-1)) hx hb gX11_sheet_1.2.1 (by decide) ?_
      refine lv_icmp_ne (tgt := 33) hx hb gX11_sheet_1.2.2.1 (by decide) (fun c_20_2538 => ?_) (fun c_20_2538 => ?_)
      · refine lv_iload_n hx hb gX11_sheet_1.2.2.2.2.2.2.2.2.2 rfl (lv_at3 hl) ?_
        refine lv_bipush (v := 40) hx hb gX11_sheet_2.1 (by decide) ?_
        refine lv_icmp_le (tgt := 41) hx hb gX11_sheet_2.2.1 (by decide) (fun c_36_2539 => ?_) (fun c_36_2539 => ?_)
        · refine lv_iload_n hx hb gX11_sheet_2.2.2.2.2.1 rfl (lv_at3 hl) ?_
          refine lv_if_ge (tgt := 48) hx hb gX11_sheet_2.2.2.2.2.2.1 (by decide) (fun c_42_2540 => ?_) (fun c_42_2540 => ?_)
          · obtain ⟨jn, hjn9, rfl⟩ := nI_of (Int32.not_lt.mpr c_42_2540)
            have hjn := (nI_leI (a := jn) (b := 40) hjn9 (by decide)).mp c_36_2539
            refine lv_aload_n hx hb gX11_sheet_2.2.2.2.2.2.2.2.2.1 rfl (lv_at0 hl) ?_
            refine gf_X11_72 hC rfl hK hP 0 rfl rfl gX11_sheet_2.2.2.2.2.2.2.2.2.2 ?_
            refine lv_iload_n hx hb gX11_sheet_3.1 rfl (lv_at1 hl) ?_
            refine lv_iload_n hx hb gX11_sheet_3.2.1 rfl (lv_at2 hl) ?_
            refine lv_iload_n hx hb gX11_sheet_3.2.2.1 rfl (lv_at3 hl) ?_
            refine vV (wr := [(h0, oX11 bb kk ikp sg do9 ru9 ta9 tp9 ro9 ho9 de9)]) hC hK hl hP hD hS hA (c_layX l G ho9 jt x2 jn hs hz hi hw hn ht fhs fhz fhi (by omega) (by omega)) si_X11_306 [1, 2, 3, 4] [0] sm_1_2_3_4 fm_1_2_3_4 nd_1_2_3_4 sm_0 nd_0 dj_1_2_3_4__0 rfl rfl rfl rfl rfl (Nat.le_of_ble_eq_true rfl) rm_5_3_5 ⟨Nat.le_of_ble_eq_true rfl, Nat.le_of_ble_eq_true rfl⟩ gX11_sheet_3.2.2.2.1 (fun ghi2543 H locs hr2541 hP hD hS => ?_)
            try dsimp only at hr2541
            refine Kpdr (ws := [(h0, oX11 bb kk ikp sg do9 ru9 ta9 tp9 ro9 ho9 de9), (ho9, oX4 hs hz hi hw hn ht), (hs, iA G 4 (upd fhs jt x2)), (hz, iA G 4 (upd fhz jt (nI jn))), (hi, iA G 160 ghi2543)]) hP hD (fun hP hD => ?_)
            have w2544 := hr2541
            refine lv_iconst (v := 1) hx hb gX11_sheet_3.2.2.2.2.1 (by decide) ?_
            refine toQ hQ0 ?_
            exact RI (v := 1) hC hP hD hS [0, 1, 2, 3, 4] ((upd fhs jt x2), (upd fhz jt (nI jn)), ghi2543) rfl rfl (by decide) (⟨(by first | rfl | (simp only [ifc_t a2535, ifc_t a2537, ifc_f c_20_2538, ifc_t c_36_2539, ifc_t c_42_2540, ifc_f (q := x2 < 0) (wi_nn a2537 c_20_2538), ifc_f (q := nI jn < 0) (Int32.not_lt.mpr c_42_2540)]; done) | (simp only [ifc_t a2535, ifc_t a2537, ifc_f c_20_2538, ifc_t c_36_2539, ifc_t c_42_2540, ifc_f (q := x2 < 0) (wi_nn a2537 c_20_2538), ifc_f (q := nI jn < 0) (Int32.not_lt.mpr c_42_2540)]; rfl)), ⟨fun h9 => absurd h9.2.2 (wi_nn a2537 c_20_2538), fun _ => (by rw [nI_clamp (n := jt) (by omega)]; exact ⟨rfl, rfl, w2544⟩), fun _ h9 => absurd ⟨a2535, a2537, (wi_nn a2537 c_20_2538), c_36_2539, (Int32.not_lt.mpr c_42_2540)⟩ h9⟩⟩) rfl gX11_sheet_3.2.2.2.2.2
          · refine lv_bipush (v := (-14)) hx hb gX11_sheet_2.2.2.2.2.2.2.1 (by decide) ?_
            refine toQ hQ0 ?_
            exact RI (v := (-14)) hC hP hD hS [0, 1, 2, 3, 4] (fhs, fhz, fhi) rfl rfl (by decide) (⟨(by first | rfl | (simp only [ifc_t a2535, ifc_t a2537, ifc_f c_20_2538, ifc_t c_36_2539, ifc_f c_42_2540, ifc_f (q := x2 < 0) (wi_nn a2537 c_20_2538), ifc_t (q := x3 < 0) (Int32.not_le.mp c_42_2540)]; done) | (simp only [ifc_t a2535, ifc_t a2537, ifc_f c_20_2538, ifc_t c_36_2539, ifc_f c_42_2540, ifc_f (q := x2 < 0) (wi_nn a2537 c_20_2538), ifc_t (q := x3 < 0) (Int32.not_le.mp c_42_2540)]; rfl)), ⟨fun h9 => absurd h9.2.2 (wi_nn a2537 c_20_2538), fun h9 => absurd (Int32.not_le.mp c_42_2540) h9.2.2.2.2, fun _ _ => ⟨rfl, rfl, rfl⟩⟩⟩) rfl gX11_sheet_2.2.2.2.2.2.2.2.1
        · refine lv_iconst (v := (-1)) hx hb gX11_sheet_2.2.2.1 (by decide) ?_
          refine toQ hQ0 ?_
          exact RI (v := (-1)) hC hP hD hS [0, 1, 2, 3, 4] (fhs, fhz, fhi) rfl rfl (by decide) (⟨(by first | rfl | (simp only [ifc_t a2535, ifc_t a2537, ifc_f c_20_2538, ifc_f c_36_2539, ifc_f (q := x2 < 0) (wi_nn a2537 c_20_2538)]; done) | (simp only [ifc_t a2535, ifc_t a2537, ifc_f c_20_2538, ifc_f c_36_2539, ifc_f (q := x2 < 0) (wi_nn a2537 c_20_2538)]; rfl)), ⟨fun h9 => absurd h9.2.2 (wi_nn a2537 c_20_2538), fun h9 => absurd h9.2.2.2.1 c_36_2539, fun _ _ => ⟨rfl, rfl, rfl⟩⟩⟩) rfl gX11_sheet_2.2.2.2.1
      · refine lv_aload_n hx hb gX11_sheet_1.2.2.2.1 rfl (lv_at0 hl) ?_
        refine gf_X11_72 hC rfl hK hP 0 rfl rfl gX11_sheet_1.2.2.2.2.1 ?_
        refine lv_iload_n hx hb gX11_sheet_1.2.2.2.2.2.1 rfl (lv_at1 hl) ?_
        refine vV (wr := [(h0, oX11 bb kk ikp sg do9 ru9 ta9 tp9 ro9 ho9 de9), (hi, iA G 160 fhi)]) hC hK hl hP hD hS hA (c_clearX l G ho9 jt hs hz hi hw hn ht fhs fhz (by omega)) si_X11_304 [1, 2, 3] [0, 4] sm_1_2_3 fm_1_2_3 nd_1_2_3 sm_0_4 nd_0_4 dj_1_2_3__0_4 rfl rfl rfl rfl rfl (Nat.le_of_ble_eq_true rfl) rm_5_3_2 ⟨Nat.le_of_ble_eq_true rfl, Nat.le_of_ble_eq_true rfl⟩ gX11_sheet_1.2.2.2.2.2.2.1 (fun u2546 H locs hr2545 hP hD hS => ?_)
        refine Kpdr (ws := [(h0, oX11 bb kk ikp sg do9 ru9 ta9 tp9 ro9 ho9 de9), (hi, iA G 160 fhi), (ho9, oX4 hs hz hi hw hn ht), (hs, iA G 4 (upd fhs jt (-1))), (hz, iA G 4 (upd fhz jt 0))]) hP hD (fun hP hD => ?_)
        refine lv_iconst (v := 1) hx hb gX11_sheet_1.2.2.2.2.2.2.2.1 (by decide) ?_
        refine toQ hQ0 ?_
        exact RI (v := 1) hC hP hD hS [0, 2, 3, 4, 1] ((upd fhs jt (-1)), (upd fhz jt 0), fhi) rfl rfl (by decide) (⟨(by first | rfl | (simp only [ifc_t a2535, ifc_t a2537, ifc_t c_20_2538, ifc_t (q := x2 < 0) (by rw [c_20_2538]; decide)]; done) | (simp only [ifc_t a2535, ifc_t a2537, ifc_t c_20_2538, ifc_t (q := x2 < 0) (by rw [c_20_2538]; decide)]; rfl)), ⟨fun _ => (by rw [nI_clamp (n := jt) (by omega), c_20_2538]; exact ⟨rfl, rfl, ZQ.rf⟩), fun h9 => absurd (by rw [c_20_2538]; decide) h9.2.2.1, fun h9 _ => absurd ⟨a2535, a2537, (by rw [c_20_2538]; decide)⟩ h9⟩⟩) rfl gX11_sheet_1.2.2.2.2.2.2.2.2.1
    · refine lv_if_ne (tgt := 18) hx hb gX11_sheet_0.2.2.2.2.2.2.2.1 (by decide) (fun c9 => absurd (by decide) c9) (fun _ => ?_)
      refine lv_iconst (v := (-1)) hx hb gX11_sheet_0.2.2.2.2.2.2.2.2.1 (by decide) ?_
      refine toQ hQ0 ?_
      exact RI (v := (-1)) hC hP hD hS [0, 1, 2, 3, 4] (fhs, fhz, fhi) rfl rfl (by decide) (⟨(by first | rfl | (simp only [ifc_t a2535, ifc_f a2537]; done) | (simp only [ifc_t a2535, ifc_f a2537]; rfl)), ⟨fun h9 => absurd h9.2.1 a2537, fun h9 => absurd h9.2.1 a2537, fun _ _ => ⟨rfl, rfl, rfl⟩⟩⟩) rfl gX11_sheet_0.2.2.2.2.2.2.2.2.2
  · refine lv_if_eq (tgt := 16) hx hb gX11_sheet_0.2.2.1 (by decide) (fun _ => ?_) (fun c9 => absurd (by decide) c9)
    refine lv_iconst (v := (-1)) hx hb gX11_sheet_0.2.2.2.2.2.2.2.2.1 (by decide) ?_
    refine toQ hQ0 ?_
    exact RI (v := (-1)) hC hP hD hS [0, 1, 2, 3, 4] (fhs, fhz, fhi) rfl rfl (by decide) (⟨(by first | rfl | (simp only [ifc_f a2535]; done) | (simp only [ifc_f a2535]; rfl)), ⟨fun h9 => absurd h9.1 a2535, fun h9 => absurd h9.1 a2535, fun _ _ => ⟨rfl, rfl, rfl⟩⟩⟩) rfl gX11_sheet_0.2.2.2.2.2.2.2.2.2
def K_c_sortX (l : Launch) (G : GG) (h0 : Nat) (js : Nat) (hs : Nat) (hz : Nat) (hi : Nat) (hw : Nat) (hn : Nat) (ht : Nat) (fhs : Nat → Int32) : Prop := MP l G yX4_sort cX4_sort 2 (some .int) 3 [.ref h0, .int (nI js)] [(h0, oX4 hs hz hi hw hn ht), (hs, iA G 4 fhs)] (fun r : Int32 => r = fhs js)
set_option maxHeartbeats 4000000 in
set_option maxRecDepth 100000 in
theorem c_sortX (l : Launch) (G : GG) (h0 : Nat) (js : Nat) (hs : Nat) (hz : Nat) (hi : Nat) (hw : Nat) (hn : Nat) (ht : Nat) (fhs : Nat → Int32) (hjs : js < 4) : K_c_sortX l G h0 js hs hz hi hw hn ht fhs := by
  refine MP.start (by decide +kernel) (Nat.le_of_ble_eq_true rfl) ?_
  intro p e s m below meth c ls hC hK hP hD hl
  refine absQ (fun Q0 hQ0 => ?_)
  have hl : lv_has ls 2 [(0, .ref h0), (1, .int (nI js))] := hl
  refine Kan8 hC (fun hx hb hr hml hB hown hlocks hnm => ?_)
  have wj1 : Wi (nI js) 0 3 := Wi_j (N := 3) rfl (by decide) (by omega)
  refine lv_iload_n hx hb gX4_sort_0.1 rfl (lv_at1 hl) ?_
  refine pSN hC hK hl (c_isSheet l G (nI js)) si_X4_30 rfl rfl (Nat.le_of_ble_eq_true rfl) rm_3_2_1 ⟨by first | exact Nat.le_of_ble_eq_true rfl | exact Nat.zero_le _, by first | exact Nat.le_of_ble_eq_true rfl | exact Nat.zero_le _⟩ gX4_sort_0.2.1 (Kors (Keqa fun a2548 => ?_) (Keqa fun a2548 => ?_))
  · refine lv_if_eq (tgt := 16) hx hb gX4_sort_0.2.2.1 (by decide) (fun c9 => absurd c9 (by decide)) (fun _ => ?_)
    refine lv_aload_n hx hb gX4_sort_0.2.2.2.1 rfl (lv_at0 hl) ?_
    refine gf_X4_11 hC rfl hK hP 0 rfl rfl gX4_sort_0.2.2.2.2.1 ?_
    refine lv_iload_n hx hb gX4_sort_0.2.2.2.2.2.1 rfl (lv_at1 hl) ?_
    refine aldN hC hK hP 1 rfl (k := js) (by omega) (Nat.le_of_ble_eq_true rfl) (v := fhs js) rfl gX4_sort_0.2.2.2.2.2.2.1 ?_
    refine lv_goto (tgt := 17) hx hb gX4_sort_0.2.2.2.2.2.2.2.1 (by decide) ?_
    refine toQ hQ0 ?_
    exact RP (v := fhs js) hC (rfl) rfl gX4_sort_0.2.2.2.2.2.2.2.2.2
  · exact absurd wj1 a2548
def K_c_sizeX (l : Launch) (G : GG) (h0 : Nat) (js : Nat) (hs : Nat) (hz : Nat) (hi : Nat) (hw : Nat) (hn : Nat) (ht : Nat) (fhz : Nat → Int32) : Prop := MP l G yX4_size cX4_size 2 (some .int) 3 [.ref h0, .int (nI js)] [(h0, oX4 hs hz hi hw hn ht), (hz, iA G 4 fhz)] (fun r : Int32 => r = fhz js)
set_option maxHeartbeats 4000000 in
set_option maxRecDepth 100000 in
theorem c_sizeX (l : Launch) (G : GG) (h0 : Nat) (js : Nat) (hs : Nat) (hz : Nat) (hi : Nat) (hw : Nat) (hn : Nat) (ht : Nat) (fhz : Nat → Int32) (hjs : js < 4) : K_c_sizeX l G h0 js hs hz hi hw hn ht fhz := by
  refine MP.start (by decide +kernel) (Nat.le_of_ble_eq_true rfl) ?_
  intro p e s m below meth c ls hC hK hP hD hl
  refine absQ (fun Q0 hQ0 => ?_)
  have hl : lv_has ls 2 [(0, .ref h0), (1, .int (nI js))] := hl
  refine Kan8 hC (fun hx hb hr hml hB hown hlocks hnm => ?_)
  have wj1 : Wi (nI js) 0 3 := Wi_j (N := 3) rfl (by decide) (by omega)
  refine lv_iload_n hx hb gX4_size_0.1 rfl (lv_at1 hl) ?_
  refine pSN hC hK hl (c_isSheet l G (nI js)) si_X4_30 rfl rfl (Nat.le_of_ble_eq_true rfl) rm_3_2_1 ⟨by first | exact Nat.le_of_ble_eq_true rfl | exact Nat.zero_le _, by first | exact Nat.le_of_ble_eq_true rfl | exact Nat.zero_le _⟩ gX4_size_0.2.1 (Kors (Keqa fun a2550 => ?_) (Keqa fun a2550 => ?_))
  · refine lv_if_eq (tgt := 16) hx hb gX4_size_0.2.2.1 (by decide) (fun c9 => absurd c9 (by decide)) (fun _ => ?_)
    refine lv_aload_n hx hb gX4_size_0.2.2.2.1 rfl (lv_at0 hl) ?_
    refine gf_X4_15 hC rfl hK hP 0 rfl rfl gX4_size_0.2.2.2.2.1 ?_
    refine lv_iload_n hx hb gX4_size_0.2.2.2.2.2.1 rfl (lv_at1 hl) ?_
    refine aldN hC hK hP 1 rfl (k := js) (by omega) (Nat.le_of_ble_eq_true rfl) (v := fhz js) rfl gX4_size_0.2.2.2.2.2.2.1 ?_
    refine lv_goto (tgt := 17) hx hb gX4_size_0.2.2.2.2.2.2.2.1 (by decide) ?_
    refine toQ hQ0 ?_
    exact RP (v := fhz js) hC (rfl) rfl gX4_size_0.2.2.2.2.2.2.2.2.2
  · exact absurd wj1 a2550
def K_c_atX (l : Launch) (G : GG) (h0 : Nat) (js : Nat) (ji : Nat) (hs : Nat) (hz : Nat) (hi : Nat) (hw : Nat) (hn : Nat) (ht : Nat) (fhi : Nat → Int32) : Prop := MP l G yX4_at cX4_at 3 (some .int) 3 [.ref h0, .int (nI js), .int (nI ji)] [(h0, oX4 hs hz hi hw hn ht), (hi, iA G 160 fhi)] (fun r : Int32 => r = fhi (js * 40 + ji))
set_option maxHeartbeats 4000000 in
set_option maxRecDepth 100000 in
theorem c_atX (l : Launch) (G : GG) (h0 : Nat) (js : Nat) (ji : Nat) (hs : Nat) (hz : Nat) (hi : Nat) (hw : Nat) (hn : Nat) (ht : Nat) (fhi : Nat → Int32) (hjs : js < 4) (hji : ji < 40) : K_c_atX l G h0 js ji hs hz hi hw hn ht fhi := by
  refine MP.start (by decide +kernel) (Nat.le_of_ble_eq_true rfl) ?_
  intro p e s m below meth c ls hC hK hP hD hl
  refine absQ (fun Q0 hQ0 => ?_)
  have hl : lv_has ls 3 [(0, .ref h0), (1, .int (nI js)), (2, .int (nI ji))] := hl
  refine Kan8 hC (fun hx hb hr hml hB hown hlocks hnm => ?_)
  have wj1 : Wi (nI js) 0 3 := Wi_j (N := 3) rfl (by decide) (by omega)
  have wj2 : Wi (nI ji) 0 39 := Wi_j (N := 39) rfl (by decide) (by omega)
  refine lv_iload_n hx hb gX4_at_0.1 rfl (lv_at1 hl) ?_
  refine pSN hC hK hl (c_isSheet l G (nI js)) si_X4_30 rfl rfl (Nat.le_of_ble_eq_true rfl) rm_3_2_1 ⟨by first | exact Nat.le_of_ble_eq_true rfl | exact Nat.zero_le _, by first | exact Nat.le_of_ble_eq_true rfl | exact Nat.zero_le _⟩ gX4_at_0.2.1 (Kors (Keqa fun a2552 => ?_) (Keqa fun a2552 => ?_))
  · refine lv_if_eq (tgt := 31) hx hb gX4_at_0.2.2.1 (by decide) (fun c9 => absurd c9 (by decide)) (fun _ => ?_)
    refine lv_iload_n hx hb gX4_at_0.2.2.2.1 rfl (lv_at2 hl) ?_
    refine lv_iconst (v := 0) hx hb gX4_at_0.2.2.2.2.1 (by decide) ?_
    refine lv_bipush (v := 39) hx hb gX4_at_0.2.2.2.2.2.1 (by decide) ?_
    refine pSN hC hK hl (c_within l G (nI ji) 0 39) si_X4_34 rfl rfl (Nat.le_of_ble_eq_true rfl) rm_3_1_3 ⟨by first | exact Nat.le_of_ble_eq_true rfl | exact Nat.zero_le _, by first | exact Nat.le_of_ble_eq_true rfl | exact Nat.zero_le _⟩ gX4_at_0.2.2.2.2.2.2.1 (Kors (Keqa fun a2554 => ?_) (Keqa fun a2554 => ?_))
    · refine lv_if_eq (tgt := 31) hx hb gX4_at_0.2.2.2.2.2.2.2.1 (by decide) (fun c9 => absurd c9 (by decide)) (fun _ => ?_)
      refine lv_aload_n hx hb gX4_at_0.2.2.2.2.2.2.2.2.1 rfl (lv_at0 hl) ?_
      refine gf_X4_18 hC rfl hK hP 0 rfl rfl gX4_at_0.2.2.2.2.2.2.2.2.2 ?_
      refine lv_iload_n hx hb gX4_at_1.1 rfl (lv_at1 hl) ?_
      refine lv_bipush (v := 40) hx hb gX4_at_1.2.1 (by decide) ?_
      refine lv_imul hx hb gX4_at_1.2.2.1 ?_
      refine eqi (x1 := nI (js * 40)) (nI_mul js 40) ?_
      refine lv_iload_n hx hb gX4_at_1.2.2.2.1 rfl (lv_at2 hl) ?_
      refine lv_iadd hx hb gX4_at_1.2.2.2.2.1 ?_
      refine eqi (x1 := nI (js * 40 + ji)) (nI_add (js * 40) ji) ?_
      refine aldN hC hK hP 1 rfl (k := (js * 40 + ji)) (by omega) (Nat.le_of_ble_eq_true rfl) (v := fhi (js * 40 + ji)) rfl gX4_at_1.2.2.2.2.2.1 ?_
      refine lv_goto (tgt := 32) hx hb gX4_at_1.2.2.2.2.2.2.1 (by decide) ?_
      refine toQ hQ0 ?_
      exact RP (v := fhi (js * 40 + ji)) hC (rfl) rfl gX4_at_1.2.2.2.2.2.2.2.2
    · exact absurd wj2 a2554
  · exact absurd wj1 a2552
def K_c_writeX (l : Launch) (G : GG) (h0 : Nat) (js : Nat) (ji : Nat) (hs : Nat) (hz : Nat) (hi : Nat) (hw : Nat) (hn : Nat) (ht : Nat) (fhs : Nat → Int32) (fhi : Nat → Int32) (x3 : Int32) : Prop := MV l G yX4_write cX4_write 5 3 0 0 [.ref h0, .int (nI js), .int (nI ji), .int x3] [(h0, oX4 hs hz hi hw hn ht), (hs, iA G 4 fhs), (hi, iA G 160 fhi)] (fun u : (Nat → Int32) => ∀ i : Nat, u i = upd fhi (js * 40 + ji) (NARW (fhs js) x3) i) (fun u : (Nat → Int32) => [(h0, oX4 hs hz hi hw hn ht), (hs, iA G 4 fhs), (hi, iA G 160 u)])
set_option maxHeartbeats 4000000 in
set_option maxRecDepth 100000 in
theorem c_writeX (l : Launch) (G : GG) (h0 : Nat) (js : Nat) (ji : Nat) (hs : Nat) (hz : Nat) (hi : Nat) (hw : Nat) (hn : Nat) (ht : Nat) (fhs : Nat → Int32) (fhi : Nat → Int32) (x3 : Int32) (hjs : js < 4) (hji : ji < 40) : K_c_writeX l G h0 js ji hs hz hi hw hn ht fhs fhi x3 := by
  refine MV.start (by decide +kernel) (Nat.le_of_ble_eq_true rfl) ?_
  intro p e s m below meth c A ls hC hK hP hD hS hA hl
  refine absQ (fun Q0 hQ0 => ?_)
  have hl : lv_has ls 5 [(0, .ref h0), (1, .int (nI js)), (2, .int (nI ji)), (3, .int x3)] := hl
  refine Kan8 hC (fun hx hb hr hml hB hown hlocks hnm => ?_)
  have wj1 : Wi (nI js) 0 3 := Wi_j (N := 3) rfl (by decide) (by omega)
  have wj2 : Wi (nI ji) 0 39 := Wi_j (N := 39) rfl (by decide) (by omega)
  refine lv_iload_n hx hb gX4_write_0.1 rfl (lv_at1 hl) ?_
  refine pSN hC hK hl (c_isSheet l G (nI js)) si_X4_30 rfl rfl (Nat.le_of_ble_eq_true rfl) rm_3_2_1 ⟨by first | exact Nat.le_of_ble_eq_true rfl | exact Nat.zero_le _, by first | exact Nat.le_of_ble_eq_true rfl | exact Nat.zero_le _⟩ gX4_write_0.2.1 (Kors (Keqa fun a2556 => ?_) (Keqa fun a2556 => ?_))
  · refine lv_if_eq (tgt := 17) hx hb gX4_write_0.2.2.1 (by decide) (fun c9 => absurd c9 (by decide)) (fun _ => ?_)
    refine lv_iload_n hx hb gX4_write_0.2.2.2.1 rfl (lv_at2 hl) ?_
    refine lv_iconst (v := 0) hx hb gX4_write_0.2.2.2.2.1 (by decide) ?_
    refine lv_bipush (v := 39) hx hb gX4_write_0.2.2.2.2.2.1 (by decide) ?_
    refine pSN hC hK hl (c_within l G (nI ji) 0 39) si_X4_34 rfl rfl (Nat.le_of_ble_eq_true rfl) rm_3_1_3 ⟨by first | exact Nat.le_of_ble_eq_true rfl | exact Nat.zero_le _, by first | exact Nat.le_of_ble_eq_true rfl | exact Nat.zero_le _⟩ gX4_write_0.2.2.2.2.2.2.1 (Kors (Keqa fun a2558 => ?_) (Keqa fun a2558 => ?_))
    · refine lv_if_ne (tgt := 18) hx hb gX4_write_0.2.2.2.2.2.2.2.1 (by decide) (fun _ => ?_) (fun c9 => absurd c9 (by decide))
      refine lv_iload_n hx hb gX4_write_0.2.2.2.2.2.2.2.2.2 rfl (lv_at3 hl) ?_
      refine lv_istore (lv' := [(4, .int x3), (0, .ref h0), (1, .int (nI js)), (2, .int (nI ji)), (3, .int x3)]) hx hb gX4_write_1.1 hl (by decide) rfl (fun ls hl => ?_)
      refine lv_aload_n hx hb gX4_write_1.2.1 rfl (lv_at1 hl) ?_
      refine gf_X4_11 hC rfl hK hP 0 rfl rfl gX4_write_1.2.2.1 ?_
      refine lv_iload_n hx hb gX4_write_1.2.2.2.1 rfl (lv_at2 hl) ?_
      refine aldN hC hK hP 1 rfl (k := js) (by omega) (Nat.le_of_ble_eq_true rfl) (v := fhs js) rfl gX4_write_1.2.2.2.2.1 ?_
      refine lv_if_ne (tgt := 34) hx hb gX4_write_1.2.2.2.2.2.1 (by decide) (fun c_27_2559 => ?_) (fun c_27_2559 => ?_)
      · refine lv_aload_n hx hb gX4_write_1.2.2.2.2.2.2.2.2.2 rfl (lv_at1 hl) ?_
        refine gf_X4_11 hC rfl hK hP 0 rfl rfl gX4_write_2.1 ?_
        refine lv_iload_n hx hb gX4_write_2.2.1 rfl (lv_at2 hl) ?_
        refine aldN hC hK hP 1 rfl (k := js) (by omega) (Nat.le_of_ble_eq_true rfl) (v := fhs js) rfl gX4_write_2.2.2.1 ?_
        refine lv_iconst (v := 1) hx hb gX4_write_2.2.2.2.1 (by decide) ?_
        refine lv_icmp_ne (tgt := 48) hx hb gX4_write_2.2.2.2.2.1 (by decide) (fun c_41_2560 => ?_) (fun c_41_2560 => ?_)
        · refine lv_aload_n hx hb gX4_write_2.2.2.2.2.2.2.2.2.1 rfl (lv_at1 hl) ?_
          refine gf_X4_11 hC rfl hK hP 0 rfl rfl gX4_write_2.2.2.2.2.2.2.2.2.2 ?_
          refine lv_iload_n hx hb gX4_write_3.1 rfl (lv_at2 hl) ?_
          refine aldN hC hK hP 1 rfl (k := js) (by omega) (Nat.le_of_ble_eq_true rfl) (v := fhs js) rfl gX4_write_3.2.1 ?_
          refine lv_iconst (v := 4) hx hb gX4_write_3.2.2.1 (by decide) ?_
          refine lv_icmp_ne (tgt := 69) hx hb gX4_write_3.2.2.2.1 (by decide) (fun c_55_2561 => ?_) (fun c_55_2561 => ?_)
          · refine lv_aload_n hx hb gX4_write_4.1 rfl (lv_at1 hl) ?_
            refine gf_X4_18 hC rfl hK hP 0 rfl rfl gX4_write_4.2.1 ?_
            refine lv_iload_n hx hb gX4_write_4.2.2.1 rfl (lv_at2 hl) ?_
            refine lv_bipush (v := 40) hx hb gX4_write_4.2.2.2.1 (by decide) ?_
            refine lv_imul hx hb gX4_write_4.2.2.2.2.1 ?_
            refine eqi (x1 := nI (js * 40)) (nI_mul js 40) ?_
            refine lv_iload_n hx hb gX4_write_4.2.2.2.2.2.1 rfl (lv_at3 hl) ?_
            refine lv_iadd hx hb gX4_write_4.2.2.2.2.2.2.1 ?_
            refine eqi (x1 := nI (js * 40 + ji)) (nI_add (js * 40) ji) ?_
            refine lv_iload hx hb gX4_write_4.2.2.2.2.2.2.2.1 (lv_at0 hl) ?_
            refine astN hC hK hP hD hS 2 (ws' := [(h0, oX4 hs hz hi hw hn ht), (hs, iA G 4 fhs), (hi, iA G 160 (upd fhi (js * 40 + ji) x3))]) rfl (k := (js * 40 + ji)) (by omega) (Nat.le_of_ble_eq_true rfl) (rfl) gX4_write_4.2.2.2.2.2.2.2.2.1 (fun H locs hP hD hS => ?_)
            refine toQ hQ0 ?_
            exact RV hC hP hD hS [0, 1, 2] (upd fhi (js * 40 + ji) x3) rfl rfl (by decide) ((fun i => congrArg (fun z9 => upd fhi (js * 40 + ji) z9 i) (show x3 = NARW (fhs js) x3 from by unfold NARW; simp only [ifc_t hjs, ifc_t hji, ifc_t a2556, ifc_t a2558, ifc_f c_27_2559, ifc_f c_41_2560, ifc_f c_55_2561]))) gX4_write_4.2.2.2.2.2.2.2.2.2
          · refine lv_iload_n hx hb gX4_write_3.2.2.2.2.1 rfl (lv_at4 hl) ?_
            refine lv_if_eq (tgt := 66) hx hb gX4_write_3.2.2.2.2.2.1 (by decide) (fun c_59_2562 => ?_) (fun c_59_2562 => ?_)
            · refine lv_iconst (v := 0) hx hb gX4_write_3.2.2.2.2.2.2.2.2.1 (by decide) ?_
              refine lv_istore (lv' := [(4, .int 0), (0, .ref h0), (1, .int (nI js)), (2, .int (nI ji)), (3, .int x3)]) hx hb gX4_write_3.2.2.2.2.2.2.2.2.2 hl (by decide) rfl (fun ls hl => ?_)
              refine lv_aload_n hx hb gX4_write_4.1 rfl (lv_at1 hl) ?_
              refine gf_X4_18 hC rfl hK hP 0 rfl rfl gX4_write_4.2.1 ?_
              refine lv_iload_n hx hb gX4_write_4.2.2.1 rfl (lv_at2 hl) ?_
              refine lv_bipush (v := 40) hx hb gX4_write_4.2.2.2.1 (by decide) ?_
              refine lv_imul hx hb gX4_write_4.2.2.2.2.1 ?_
              refine eqi (x1 := nI (js * 40)) (nI_mul js 40) ?_
              refine lv_iload_n hx hb gX4_write_4.2.2.2.2.2.1 rfl (lv_at3 hl) ?_
              refine lv_iadd hx hb gX4_write_4.2.2.2.2.2.2.1 ?_
              refine eqi (x1 := nI (js * 40 + ji)) (nI_add (js * 40) ji) ?_
              refine lv_iload hx hb gX4_write_4.2.2.2.2.2.2.2.1 (lv_at0 hl) ?_
              refine astN hC hK hP hD hS 2 (ws' := [(h0, oX4 hs hz hi hw hn ht), (hs, iA G 4 fhs), (hi, iA G 160 (upd fhi (js * 40 + ji) 0))]) rfl (k := (js * 40 + ji)) (by omega) (Nat.le_of_ble_eq_true rfl) (rfl) gX4_write_4.2.2.2.2.2.2.2.2.1 (fun H locs hP hD hS => ?_)
              refine toQ hQ0 ?_
              exact RV hC hP hD hS [0, 1, 2] (upd fhi (js * 40 + ji) 0) rfl rfl (by decide) ((fun i => congrArg (fun z9 => upd fhi (js * 40 + ji) z9 i) (show 0 = NARW (fhs js) x3 from by unfold NARW; simp only [ifc_t hjs, ifc_t hji, ifc_t a2556, ifc_t a2558, ifc_f c_27_2559, ifc_f c_41_2560, ifc_t c_55_2561, ifc_t c_59_2562]))) gX4_write_4.2.2.2.2.2.2.2.2.2
            · refine lv_iconst (v := 1) hx hb gX4_write_3.2.2.2.2.2.2.1 (by decide) ?_
              refine lv_goto (tgt := 67) hx hb gX4_write_3.2.2.2.2.2.2.2.1 (by decide) ?_
              refine lv_istore (lv' := [(4, .int 1), (0, .ref h0), (1, .int (nI js)), (2, .int (nI ji)), (3, .int x3)]) hx hb gX4_write_3.2.2.2.2.2.2.2.2.2 hl (by decide) rfl (fun ls hl => ?_)
              refine lv_aload_n hx hb gX4_write_4.1 rfl (lv_at1 hl) ?_
              refine gf_X4_18 hC rfl hK hP 0 rfl rfl gX4_write_4.2.1 ?_
              refine lv_iload_n hx hb gX4_write_4.2.2.1 rfl (lv_at2 hl) ?_
              refine lv_bipush (v := 40) hx hb gX4_write_4.2.2.2.1 (by decide) ?_
              refine lv_imul hx hb gX4_write_4.2.2.2.2.1 ?_
              refine eqi (x1 := nI (js * 40)) (nI_mul js 40) ?_
              refine lv_iload_n hx hb gX4_write_4.2.2.2.2.2.1 rfl (lv_at3 hl) ?_
              refine lv_iadd hx hb gX4_write_4.2.2.2.2.2.2.1 ?_
              refine eqi (x1 := nI (js * 40 + ji)) (nI_add (js * 40) ji) ?_
              refine lv_iload hx hb gX4_write_4.2.2.2.2.2.2.2.1 (lv_at0 hl) ?_
              refine astN hC hK hP hD hS 2 (ws' := [(h0, oX4 hs hz hi hw hn ht), (hs, iA G 4 fhs), (hi, iA G 160 (upd fhi (js * 40 + ji) 1))]) rfl (k := (js * 40 + ji)) (by omega) (Nat.le_of_ble_eq_true rfl) (rfl) gX4_write_4.2.2.2.2.2.2.2.2.1 (fun H locs hP hD hS => ?_)
              refine toQ hQ0 ?_
              exact RV hC hP hD hS [0, 1, 2] (upd fhi (js * 40 + ji) 1) rfl rfl (by decide) ((fun i => congrArg (fun z9 => upd fhi (js * 40 + ji) z9 i) (show 1 = NARW (fhs js) x3 from by unfold NARW; simp only [ifc_t hjs, ifc_t hji, ifc_t a2556, ifc_t a2558, ifc_f c_27_2559, ifc_f c_41_2560, ifc_t c_55_2561, ifc_f c_59_2562]))) gX4_write_4.2.2.2.2.2.2.2.2.2
        · refine lv_iload_n hx hb gX4_write_2.2.2.2.2.2.1 rfl (lv_at4 hl) ?_
          refine lv_i2s hx hb gX4_write_2.2.2.2.2.2.2.1 rfl ?_
          refine lv_istore (lv' := [(4, .int (x3.toInt16.toInt32)), (0, .ref h0), (1, .int (nI js)), (2, .int (nI ji)), (3, .int x3)]) hx hb gX4_write_2.2.2.2.2.2.2.2.1 hl (by decide) rfl (fun ls hl => ?_)
          refine lv_aload_n hx hb gX4_write_2.2.2.2.2.2.2.2.2.1 rfl (lv_at1 hl) ?_
          refine gf_X4_11 hC rfl hK hP 0 rfl rfl gX4_write_2.2.2.2.2.2.2.2.2.2 ?_
          refine lv_iload_n hx hb gX4_write_3.1 rfl (lv_at2 hl) ?_
          refine aldN hC hK hP 1 rfl (k := js) (by omega) (Nat.le_of_ble_eq_true rfl) (v := fhs js) rfl gX4_write_3.2.1 ?_
          refine lv_iconst (v := 4) hx hb gX4_write_3.2.2.1 (by decide) ?_
          refine lv_icmp_ne (tgt := 69) hx hb gX4_write_3.2.2.2.1 (by decide) (fun c_55_2563 => ?_) (fun c_55_2563 => ?_)
          · refine lv_aload_n hx hb gX4_write_4.1 rfl (lv_at1 hl) ?_
            refine gf_X4_18 hC rfl hK hP 0 rfl rfl gX4_write_4.2.1 ?_
            refine lv_iload_n hx hb gX4_write_4.2.2.1 rfl (lv_at2 hl) ?_
            refine lv_bipush (v := 40) hx hb gX4_write_4.2.2.2.1 (by decide) ?_
            refine lv_imul hx hb gX4_write_4.2.2.2.2.1 ?_
            refine eqi (x1 := nI (js * 40)) (nI_mul js 40) ?_
            refine lv_iload_n hx hb gX4_write_4.2.2.2.2.2.1 rfl (lv_at3 hl) ?_
            refine lv_iadd hx hb gX4_write_4.2.2.2.2.2.2.1 ?_
            refine eqi (x1 := nI (js * 40 + ji)) (nI_add (js * 40) ji) ?_
            refine lv_iload hx hb gX4_write_4.2.2.2.2.2.2.2.1 (lv_at0 hl) ?_
            refine astN hC hK hP hD hS 2 (ws' := [(h0, oX4 hs hz hi hw hn ht), (hs, iA G 4 fhs), (hi, iA G 160 (upd fhi (js * 40 + ji) x3.toInt16.toInt32))]) rfl (k := (js * 40 + ji)) (by omega) (Nat.le_of_ble_eq_true rfl) (rfl) gX4_write_4.2.2.2.2.2.2.2.2.1 (fun H locs hP hD hS => ?_)
            refine toQ hQ0 ?_
            exact RV hC hP hD hS [0, 1, 2] (upd fhi (js * 40 + ji) x3.toInt16.toInt32) rfl rfl (by decide) ((fun i => congrArg (fun z9 => upd fhi (js * 40 + ji) z9 i) (show x3.toInt16.toInt32 = NARW (fhs js) x3 from by unfold NARW; simp only [ifc_t hjs, ifc_t hji, ifc_t a2556, ifc_t a2558, ifc_f c_27_2559, ifc_t c_41_2560, ifc_f c_55_2563]))) gX4_write_4.2.2.2.2.2.2.2.2.2
          · refine lv_iload_n hx hb gX4_write_3.2.2.2.2.1 rfl (lv_at4 hl) ?_
            refine lv_if_eq (tgt := 66) hx hb gX4_write_3.2.2.2.2.2.1 (by decide) (fun c_59_2564 => ?_) (fun c_59_2564 => ?_)
            · refine lv_iconst (v := 0) hx hb gX4_write_3.2.2.2.2.2.2.2.2.1 (by decide) ?_
              refine lv_istore (lv' := [(4, .int 0), (0, .ref h0), (1, .int (nI js)), (2, .int (nI ji)), (3, .int x3)]) hx hb gX4_write_3.2.2.2.2.2.2.2.2.2 hl (by decide) rfl (fun ls hl => ?_)
              refine lv_aload_n hx hb gX4_write_4.1 rfl (lv_at1 hl) ?_
              refine gf_X4_18 hC rfl hK hP 0 rfl rfl gX4_write_4.2.1 ?_
              refine lv_iload_n hx hb gX4_write_4.2.2.1 rfl (lv_at2 hl) ?_
              refine lv_bipush (v := 40) hx hb gX4_write_4.2.2.2.1 (by decide) ?_
              refine lv_imul hx hb gX4_write_4.2.2.2.2.1 ?_
              refine eqi (x1 := nI (js * 40)) (nI_mul js 40) ?_
              refine lv_iload_n hx hb gX4_write_4.2.2.2.2.2.1 rfl (lv_at3 hl) ?_
              refine lv_iadd hx hb gX4_write_4.2.2.2.2.2.2.1 ?_
              refine eqi (x1 := nI (js * 40 + ji)) (nI_add (js * 40) ji) ?_
              refine lv_iload hx hb gX4_write_4.2.2.2.2.2.2.2.1 (lv_at0 hl) ?_
              refine astN hC hK hP hD hS 2 (ws' := [(h0, oX4 hs hz hi hw hn ht), (hs, iA G 4 fhs), (hi, iA G 160 (upd fhi (js * 40 + ji) 0))]) rfl (k := (js * 40 + ji)) (by omega) (Nat.le_of_ble_eq_true rfl) (rfl) gX4_write_4.2.2.2.2.2.2.2.2.1 (fun H locs hP hD hS => ?_)
              refine toQ hQ0 ?_
              exact RV hC hP hD hS [0, 1, 2] (upd fhi (js * 40 + ji) 0) rfl rfl (by decide) ((fun i => congrArg (fun z9 => upd fhi (js * 40 + ji) z9 i) (show 0 = NARW (fhs js) x3 from by unfold NARW; simp only [ifc_t hjs, ifc_t hji, ifc_t a2556, ifc_t a2558, ifc_f c_27_2559, ifc_t c_41_2560, ifc_t c_55_2563, ifc_t c_59_2564]))) gX4_write_4.2.2.2.2.2.2.2.2.2
            · refine lv_iconst (v := 1) hx hb gX4_write_3.2.2.2.2.2.2.1 (by decide) ?_
              refine lv_goto (tgt := 67) hx hb gX4_write_3.2.2.2.2.2.2.2.1 (by decide) ?_
              refine lv_istore (lv' := [(4, .int 1), (0, .ref h0), (1, .int (nI js)), (2, .int (nI ji)), (3, .int x3)]) hx hb gX4_write_3.2.2.2.2.2.2.2.2.2 hl (by decide) rfl (fun ls hl => ?_)
              refine lv_aload_n hx hb gX4_write_4.1 rfl (lv_at1 hl) ?_
              refine gf_X4_18 hC rfl hK hP 0 rfl rfl gX4_write_4.2.1 ?_
              refine lv_iload_n hx hb gX4_write_4.2.2.1 rfl (lv_at2 hl) ?_
              refine lv_bipush (v := 40) hx hb gX4_write_4.2.2.2.1 (by decide) ?_
              refine lv_imul hx hb gX4_write_4.2.2.2.2.1 ?_
              refine eqi (x1 := nI (js * 40)) (nI_mul js 40) ?_
              refine lv_iload_n hx hb gX4_write_4.2.2.2.2.2.1 rfl (lv_at3 hl) ?_
              refine lv_iadd hx hb gX4_write_4.2.2.2.2.2.2.1 ?_
              refine eqi (x1 := nI (js * 40 + ji)) (nI_add (js * 40) ji) ?_
              refine lv_iload hx hb gX4_write_4.2.2.2.2.2.2.2.1 (lv_at0 hl) ?_
              refine astN hC hK hP hD hS 2 (ws' := [(h0, oX4 hs hz hi hw hn ht), (hs, iA G 4 fhs), (hi, iA G 160 (upd fhi (js * 40 + ji) 1))]) rfl (k := (js * 40 + ji)) (by omega) (Nat.le_of_ble_eq_true rfl) (rfl) gX4_write_4.2.2.2.2.2.2.2.2.1 (fun H locs hP hD hS => ?_)
              refine toQ hQ0 ?_
              exact RV hC hP hD hS [0, 1, 2] (upd fhi (js * 40 + ji) 1) rfl rfl (by decide) ((fun i => congrArg (fun z9 => upd fhi (js * 40 + ji) z9 i) (show 1 = NARW (fhs js) x3 from by unfold NARW; simp only [ifc_t hjs, ifc_t hji, ifc_t a2556, ifc_t a2558, ifc_f c_27_2559, ifc_t c_41_2560, ifc_t c_55_2563, ifc_f c_59_2564]))) gX4_write_4.2.2.2.2.2.2.2.2.2
      · refine lv_iload_n hx hb gX4_write_1.2.2.2.2.2.2.1 rfl (lv_at4 hl) ?_
        refine lv_i2b hx hb gX4_write_1.2.2.2.2.2.2.2.1 rfl ?_
        refine lv_istore (lv' := [(4, .int (x3.toInt8.toInt32)), (0, .ref h0), (1, .int (nI js)), (2, .int (nI ji)), (3, .int x3)]) hx hb gX4_write_1.2.2.2.2.2.2.2.2.1 hl (by decide) rfl (fun ls hl => ?_)
        refine lv_aload_n hx hb gX4_write_1.2.2.2.2.2.2.2.2.2 rfl (lv_at1 hl) ?_
        refine gf_X4_11 hC rfl hK hP 0 rfl rfl gX4_write_2.1 ?_
        refine lv_iload_n hx hb gX4_write_2.2.1 rfl (lv_at2 hl) ?_
        refine aldN hC hK hP 1 rfl (k := js) (by omega) (Nat.le_of_ble_eq_true rfl) (v := fhs js) rfl gX4_write_2.2.2.1 ?_
        refine lv_iconst (v := 1) hx hb gX4_write_2.2.2.2.1 (by decide) ?_
        refine lv_icmp_ne (tgt := 48) hx hb gX4_write_2.2.2.2.2.1 (by decide) (fun c_41_2565 => ?_) (fun c_41_2565 => ?_)
        · refine lv_aload_n hx hb gX4_write_2.2.2.2.2.2.2.2.2.1 rfl (lv_at1 hl) ?_
          refine gf_X4_11 hC rfl hK hP 0 rfl rfl gX4_write_2.2.2.2.2.2.2.2.2.2 ?_
          refine lv_iload_n hx hb gX4_write_3.1 rfl (lv_at2 hl) ?_
          refine aldN hC hK hP 1 rfl (k := js) (by omega) (Nat.le_of_ble_eq_true rfl) (v := fhs js) rfl gX4_write_3.2.1 ?_
          refine lv_iconst (v := 4) hx hb gX4_write_3.2.2.1 (by decide) ?_
          refine lv_icmp_ne (tgt := 69) hx hb gX4_write_3.2.2.2.1 (by decide) (fun c_55_2566 => ?_) (fun c_55_2566 => ?_)
          · refine lv_aload_n hx hb gX4_write_4.1 rfl (lv_at1 hl) ?_
            refine gf_X4_18 hC rfl hK hP 0 rfl rfl gX4_write_4.2.1 ?_
            refine lv_iload_n hx hb gX4_write_4.2.2.1 rfl (lv_at2 hl) ?_
            refine lv_bipush (v := 40) hx hb gX4_write_4.2.2.2.1 (by decide) ?_
            refine lv_imul hx hb gX4_write_4.2.2.2.2.1 ?_
            refine eqi (x1 := nI (js * 40)) (nI_mul js 40) ?_
            refine lv_iload_n hx hb gX4_write_4.2.2.2.2.2.1 rfl (lv_at3 hl) ?_
            refine lv_iadd hx hb gX4_write_4.2.2.2.2.2.2.1 ?_
            refine eqi (x1 := nI (js * 40 + ji)) (nI_add (js * 40) ji) ?_
            refine lv_iload hx hb gX4_write_4.2.2.2.2.2.2.2.1 (lv_at0 hl) ?_
            refine astN hC hK hP hD hS 2 (ws' := [(h0, oX4 hs hz hi hw hn ht), (hs, iA G 4 fhs), (hi, iA G 160 (upd fhi (js * 40 + ji) x3.toInt8.toInt32))]) rfl (k := (js * 40 + ji)) (by omega) (Nat.le_of_ble_eq_true rfl) (rfl) gX4_write_4.2.2.2.2.2.2.2.2.1 (fun H locs hP hD hS => ?_)
            refine toQ hQ0 ?_
            exact RV hC hP hD hS [0, 1, 2] (upd fhi (js * 40 + ji) x3.toInt8.toInt32) rfl rfl (by decide) ((fun i => congrArg (fun z9 => upd fhi (js * 40 + ji) z9 i) (show x3.toInt8.toInt32 = NARW (fhs js) x3 from by unfold NARW; simp only [ifc_t hjs, ifc_t hji, ifc_t a2556, ifc_t a2558, ifc_t c_27_2559, ifc_f c_41_2565, ifc_f c_55_2566]))) gX4_write_4.2.2.2.2.2.2.2.2.2
          · refine lv_iload_n hx hb gX4_write_3.2.2.2.2.1 rfl (lv_at4 hl) ?_
            refine lv_if_eq (tgt := 66) hx hb gX4_write_3.2.2.2.2.2.1 (by decide) (fun c_59_2567 => ?_) (fun c_59_2567 => ?_)
            · refine lv_iconst (v := 0) hx hb gX4_write_3.2.2.2.2.2.2.2.2.1 (by decide) ?_
              refine lv_istore (lv' := [(4, .int 0), (0, .ref h0), (1, .int (nI js)), (2, .int (nI ji)), (3, .int x3)]) hx hb gX4_write_3.2.2.2.2.2.2.2.2.2 hl (by decide) rfl (fun ls hl => ?_)
              refine lv_aload_n hx hb gX4_write_4.1 rfl (lv_at1 hl) ?_
              refine gf_X4_18 hC rfl hK hP 0 rfl rfl gX4_write_4.2.1 ?_
              refine lv_iload_n hx hb gX4_write_4.2.2.1 rfl (lv_at2 hl) ?_
              refine lv_bipush (v := 40) hx hb gX4_write_4.2.2.2.1 (by decide) ?_
              refine lv_imul hx hb gX4_write_4.2.2.2.2.1 ?_
              refine eqi (x1 := nI (js * 40)) (nI_mul js 40) ?_
              refine lv_iload_n hx hb gX4_write_4.2.2.2.2.2.1 rfl (lv_at3 hl) ?_
              refine lv_iadd hx hb gX4_write_4.2.2.2.2.2.2.1 ?_
              refine eqi (x1 := nI (js * 40 + ji)) (nI_add (js * 40) ji) ?_
              refine lv_iload hx hb gX4_write_4.2.2.2.2.2.2.2.1 (lv_at0 hl) ?_
              refine astN hC hK hP hD hS 2 (ws' := [(h0, oX4 hs hz hi hw hn ht), (hs, iA G 4 fhs), (hi, iA G 160 (upd fhi (js * 40 + ji) 0))]) rfl (k := (js * 40 + ji)) (by omega) (Nat.le_of_ble_eq_true rfl) (rfl) gX4_write_4.2.2.2.2.2.2.2.2.1 (fun H locs hP hD hS => ?_)
              refine toQ hQ0 ?_
              exact RV hC hP hD hS [0, 1, 2] (upd fhi (js * 40 + ji) 0) rfl rfl (by decide) ((fun i => congrArg (fun z9 => upd fhi (js * 40 + ji) z9 i) (show 0 = NARW (fhs js) x3 from by unfold NARW; simp only [ifc_t hjs, ifc_t hji, ifc_t a2556, ifc_t a2558, ifc_t c_27_2559, ifc_f c_41_2565, ifc_t c_55_2566, ifc_t c_59_2567]))) gX4_write_4.2.2.2.2.2.2.2.2.2
            · refine lv_iconst (v := 1) hx hb gX4_write_3.2.2.2.2.2.2.1 (by decide) ?_
              refine lv_goto (tgt := 67) hx hb gX4_write_3.2.2.2.2.2.2.2.1 (by decide) ?_
              refine lv_istore (lv' := [(4, .int 1), (0, .ref h0), (1, .int (nI js)), (2, .int (nI ji)), (3, .int x3)]) hx hb gX4_write_3.2.2.2.2.2.2.2.2.2 hl (by decide) rfl (fun ls hl => ?_)
              refine lv_aload_n hx hb gX4_write_4.1 rfl (lv_at1 hl) ?_
              refine gf_X4_18 hC rfl hK hP 0 rfl rfl gX4_write_4.2.1 ?_
              refine lv_iload_n hx hb gX4_write_4.2.2.1 rfl (lv_at2 hl) ?_
              refine lv_bipush (v := 40) hx hb gX4_write_4.2.2.2.1 (by decide) ?_
              refine lv_imul hx hb gX4_write_4.2.2.2.2.1 ?_
              refine eqi (x1 := nI (js * 40)) (nI_mul js 40) ?_
              refine lv_iload_n hx hb gX4_write_4.2.2.2.2.2.1 rfl (lv_at3 hl) ?_
              refine lv_iadd hx hb gX4_write_4.2.2.2.2.2.2.1 ?_
              refine eqi (x1 := nI (js * 40 + ji)) (nI_add (js * 40) ji) ?_
              refine lv_iload hx hb gX4_write_4.2.2.2.2.2.2.2.1 (lv_at0 hl) ?_
              refine astN hC hK hP hD hS 2 (ws' := [(h0, oX4 hs hz hi hw hn ht), (hs, iA G 4 fhs), (hi, iA G 160 (upd fhi (js * 40 + ji) 1))]) rfl (k := (js * 40 + ji)) (by omega) (Nat.le_of_ble_eq_true rfl) (rfl) gX4_write_4.2.2.2.2.2.2.2.2.1 (fun H locs hP hD hS => ?_)
              refine toQ hQ0 ?_
              exact RV hC hP hD hS [0, 1, 2] (upd fhi (js * 40 + ji) 1) rfl rfl (by decide) ((fun i => congrArg (fun z9 => upd fhi (js * 40 + ji) z9 i) (show 1 = NARW (fhs js) x3 from by unfold NARW; simp only [ifc_t hjs, ifc_t hji, ifc_t a2556, ifc_t a2558, ifc_t c_27_2559, ifc_f c_41_2565, ifc_t c_55_2566, ifc_f c_59_2567]))) gX4_write_4.2.2.2.2.2.2.2.2.2
        · refine lv_iload_n hx hb gX4_write_2.2.2.2.2.2.1 rfl (lv_at4 hl) ?_
          refine lv_i2s hx hb gX4_write_2.2.2.2.2.2.2.1 rfl ?_
          refine lv_istore (lv' := [(4, .int (x3.toInt16.toInt32)), (0, .ref h0), (1, .int (nI js)), (2, .int (nI ji)), (3, .int x3)]) hx hb gX4_write_2.2.2.2.2.2.2.2.1 hl (by decide) rfl (fun ls hl => ?_)
          refine lv_aload_n hx hb gX4_write_2.2.2.2.2.2.2.2.2.1 rfl (lv_at1 hl) ?_
          refine gf_X4_11 hC rfl hK hP 0 rfl rfl gX4_write_2.2.2.2.2.2.2.2.2.2 ?_
          refine lv_iload_n hx hb gX4_write_3.1 rfl (lv_at2 hl) ?_
          refine aldN hC hK hP 1 rfl (k := js) (by omega) (Nat.le_of_ble_eq_true rfl) (v := fhs js) rfl gX4_write_3.2.1 ?_
          refine lv_iconst (v := 4) hx hb gX4_write_3.2.2.1 (by decide) ?_
          refine lv_icmp_ne (tgt := 69) hx hb gX4_write_3.2.2.2.1 (by decide) (fun c_55_2568 => ?_) (fun c_55_2568 => ?_)
          · refine lv_aload_n hx hb gX4_write_4.1 rfl (lv_at1 hl) ?_
            refine gf_X4_18 hC rfl hK hP 0 rfl rfl gX4_write_4.2.1 ?_
            refine lv_iload_n hx hb gX4_write_4.2.2.1 rfl (lv_at2 hl) ?_
            refine lv_bipush (v := 40) hx hb gX4_write_4.2.2.2.1 (by decide) ?_
            refine lv_imul hx hb gX4_write_4.2.2.2.2.1 ?_
            refine eqi (x1 := nI (js * 40)) (nI_mul js 40) ?_
            refine lv_iload_n hx hb gX4_write_4.2.2.2.2.2.1 rfl (lv_at3 hl) ?_
            refine lv_iadd hx hb gX4_write_4.2.2.2.2.2.2.1 ?_
            refine eqi (x1 := nI (js * 40 + ji)) (nI_add (js * 40) ji) ?_
            refine lv_iload hx hb gX4_write_4.2.2.2.2.2.2.2.1 (lv_at0 hl) ?_
            refine astN hC hK hP hD hS 2 (ws' := [(h0, oX4 hs hz hi hw hn ht), (hs, iA G 4 fhs), (hi, iA G 160 (upd fhi (js * 40 + ji) x3.toInt16.toInt32))]) rfl (k := (js * 40 + ji)) (by omega) (Nat.le_of_ble_eq_true rfl) (rfl) gX4_write_4.2.2.2.2.2.2.2.2.1 (fun H locs hP hD hS => ?_)
            refine toQ hQ0 ?_
            exact RV hC hP hD hS [0, 1, 2] (upd fhi (js * 40 + ji) x3.toInt16.toInt32) rfl rfl (by decide) ((fun i => congrArg (fun z9 => upd fhi (js * 40 + ji) z9 i) (show x3.toInt16.toInt32 = NARW (fhs js) x3 from by unfold NARW; simp only [ifc_t hjs, ifc_t hji, ifc_t a2556, ifc_t a2558, ifc_t c_27_2559, ifc_t c_41_2565, ifc_f c_55_2568]))) gX4_write_4.2.2.2.2.2.2.2.2.2
          · refine lv_iload_n hx hb gX4_write_3.2.2.2.2.1 rfl (lv_at4 hl) ?_
            refine lv_if_eq (tgt := 66) hx hb gX4_write_3.2.2.2.2.2.1 (by decide) (fun c_59_2569 => ?_) (fun c_59_2569 => ?_)
            · refine lv_iconst (v := 0) hx hb gX4_write_3.2.2.2.2.2.2.2.2.1 (by decide) ?_
              refine lv_istore (lv' := [(4, .int 0), (0, .ref h0), (1, .int (nI js)), (2, .int (nI ji)), (3, .int x3)]) hx hb gX4_write_3.2.2.2.2.2.2.2.2.2 hl (by decide) rfl (fun ls hl => ?_)
              refine lv_aload_n hx hb gX4_write_4.1 rfl (lv_at1 hl) ?_
              refine gf_X4_18 hC rfl hK hP 0 rfl rfl gX4_write_4.2.1 ?_
              refine lv_iload_n hx hb gX4_write_4.2.2.1 rfl (lv_at2 hl) ?_
              refine lv_bipush (v := 40) hx hb gX4_write_4.2.2.2.1 (by decide) ?_
              refine lv_imul hx hb gX4_write_4.2.2.2.2.1 ?_
              refine eqi (x1 := nI (js * 40)) (nI_mul js 40) ?_
              refine lv_iload_n hx hb gX4_write_4.2.2.2.2.2.1 rfl (lv_at3 hl) ?_
              refine lv_iadd hx hb gX4_write_4.2.2.2.2.2.2.1 ?_
              refine eqi (x1 := nI (js * 40 + ji)) (nI_add (js * 40) ji) ?_
              refine lv_iload hx hb gX4_write_4.2.2.2.2.2.2.2.1 (lv_at0 hl) ?_
              refine astN hC hK hP hD hS 2 (ws' := [(h0, oX4 hs hz hi hw hn ht), (hs, iA G 4 fhs), (hi, iA G 160 (upd fhi (js * 40 + ji) 0))]) rfl (k := (js * 40 + ji)) (by omega) (Nat.le_of_ble_eq_true rfl) (rfl) gX4_write_4.2.2.2.2.2.2.2.2.1 (fun H locs hP hD hS => ?_)
              refine toQ hQ0 ?_
              exact RV hC hP hD hS [0, 1, 2] (upd fhi (js * 40 + ji) 0) rfl rfl (by decide) ((fun i => congrArg (fun z9 => upd fhi (js * 40 + ji) z9 i) (show 0 = NARW (fhs js) x3 from by unfold NARW; simp only [ifc_t hjs, ifc_t hji, ifc_t a2556, ifc_t a2558, ifc_t c_27_2559, ifc_t c_41_2565, ifc_t c_55_2568, ifc_t c_59_2569]))) gX4_write_4.2.2.2.2.2.2.2.2.2
            · refine lv_iconst (v := 1) hx hb gX4_write_3.2.2.2.2.2.2.1 (by decide) ?_
              refine lv_goto (tgt := 67) hx hb gX4_write_3.2.2.2.2.2.2.2.1 (by decide) ?_
              refine lv_istore (lv' := [(4, .int 1), (0, .ref h0), (1, .int (nI js)), (2, .int (nI ji)), (3, .int x3)]) hx hb gX4_write_3.2.2.2.2.2.2.2.2.2 hl (by decide) rfl (fun ls hl => ?_)
              refine lv_aload_n hx hb gX4_write_4.1 rfl (lv_at1 hl) ?_
              refine gf_X4_18 hC rfl hK hP 0 rfl rfl gX4_write_4.2.1 ?_
              refine lv_iload_n hx hb gX4_write_4.2.2.1 rfl (lv_at2 hl) ?_
              refine lv_bipush (v := 40) hx hb gX4_write_4.2.2.2.1 (by decide) ?_
              refine lv_imul hx hb gX4_write_4.2.2.2.2.1 ?_
              refine eqi (x1 := nI (js * 40)) (nI_mul js 40) ?_
              refine lv_iload_n hx hb gX4_write_4.2.2.2.2.2.1 rfl (lv_at3 hl) ?_
              refine lv_iadd hx hb gX4_write_4.2.2.2.2.2.2.1 ?_
              refine eqi (x1 := nI (js * 40 + ji)) (nI_add (js * 40) ji) ?_
              refine lv_iload hx hb gX4_write_4.2.2.2.2.2.2.2.1 (lv_at0 hl) ?_
              refine astN hC hK hP hD hS 2 (ws' := [(h0, oX4 hs hz hi hw hn ht), (hs, iA G 4 fhs), (hi, iA G 160 (upd fhi (js * 40 + ji) 1))]) rfl (k := (js * 40 + ji)) (by omega) (Nat.le_of_ble_eq_true rfl) (rfl) gX4_write_4.2.2.2.2.2.2.2.2.1 (fun H locs hP hD hS => ?_)
              refine toQ hQ0 ?_
              exact RV hC hP hD hS [0, 1, 2] (upd fhi (js * 40 + ji) 1) rfl rfl (by decide) ((fun i => congrArg (fun z9 => upd fhi (js * 40 + ji) z9 i) (show 1 = NARW (fhs js) x3 from by unfold NARW; simp only [ifc_t hjs, ifc_t hji, ifc_t a2556, ifc_t a2558, ifc_t c_27_2559, ifc_t c_41_2565, ifc_t c_55_2568, ifc_f c_59_2569]))) gX4_write_4.2.2.2.2.2.2.2.2.2
    · exact absurd wj2 a2558
  · exact absurd wj1 a2556
def K_c_refX (l : Launch) (G : GG) (h0 : Nat) (js : Nat) (hs : Nat) (hz : Nat) (hi : Nat) (hw : Nat) (hn : Nat) (ht : Nat) (fhs : Nat → Int32) (as9 : Int32) : Prop := MP l G yX4_refusal cX4_refusal 4 (some .int) 4 [.ref h0, .int (nI js), .int as9] [(h0, oX4 hs hz hi hw hn ht), (hs, iA G 4 fhs)] (fun r : Int32 => (r = (-11) ∧ fhs js = (-1)) ∨ (r = 0 ∧ RF0 (fhs js) as9) ∨ (r = (-13) ∧ RF3 (fhs js) as9))
set_option maxHeartbeats 4000000 in
set_option maxRecDepth 100000 in
theorem c_refX (l : Launch) (G : GG) (h0 : Nat) (js : Nat) (hs : Nat) (hz : Nat) (hi : Nat) (hw : Nat) (hn : Nat) (ht : Nat) (fhs : Nat → Int32) (as9 : Int32) (hjs : js < 4) : K_c_refX l G h0 js hs hz hi hw hn ht fhs as9 := by
  refine MP.start (by decide +kernel) (Nat.le_of_ble_eq_true rfl) ?_
  intro p e s m below meth c ls hC hK hP hD hl
  refine absQ (fun Q0 hQ0 => ?_)
  have hl : lv_has ls 4 [(0, .ref h0), (1, .int (nI js)), (2, .int as9)] := hl
  refine Kan8 hC (fun hx hb hr hml hB hown hlocks hnm => ?_)
  refine lv_aload_n hx hb gX4_refusal_0.1 rfl (lv_at0 hl) ?_
  refine lv_iload_n hx hb gX4_refusal_0.2.1 rfl (lv_at1 hl) ?_
  refine pV hC hK hl hP hD (c_sortX l G h0 js hs hz hi hw hn ht fhs (hjs)) si_X4_38 [0, 1] sm_0_1 fm_0_1 nd_0_1 rfl rfl rfl rfl rfl (Nat.le_of_ble_eq_true rfl) rm_4_3_2 ⟨by first | exact Nat.le_of_ble_eq_true rfl | exact Nat.zero_le _, by first | exact Nat.le_of_ble_eq_true rfl | exact Nat.zero_le _⟩ gX4_refusal_0.2.2.1 (Keqr ?_)
  refine lv_istore_n (lv' := [(3, .int (fhs js)), (0, .ref h0), (1, .int (nI js)), (2, .int as9)]) hx hb gX4_refusal_0.2.2.2.1 rfl hl (by decide) rfl (fun ls hl => ?_)
  refine lv_iload_n hx hb gX4_refusal_0.2.2.2.2.1 rfl (lv_at0 hl) ?_
  refine lv_iconst (v := (-1)) hx hb gX4_refusal_0.2.2.2.2.2.1 (by decide) ?_
  refine lv_icmp_ne (tgt := 14) hx hb gX4_refusal_0.2.2.2.2.2.2.1 (by decide) (fun c_8_2572 => ?_) (fun c_8_2572 => ?_)
  · refine lv_iload_n hx hb gX4_refusal_0.2.2.2.2.2.2.2.2.2 rfl (lv_at0 hl) ?_
    refine lv_iload_n hx hb gX4_refusal_1.1 rfl (lv_at3 hl) ?_
    refine lv_icmp_ne (tgt := 23) hx hb gX4_refusal_1.2.1 (by decide) (fun c_16_2573 => ?_) (fun c_16_2573 => ?_)
    · refine lv_bipush (v := (-13)) hx hb gX4_refusal_1.2.2.2.2.1 (by decide) ?_
      refine toQ hQ0 ?_
      exact RP (v := (-13)) hC (Or.inr (Or.inr ⟨rfl, ⟨c_8_2572, c_16_2573⟩⟩)) rfl gX4_refusal_1.2.2.2.2.2
    · refine lv_iconst (v := 0) hx hb gX4_refusal_1.2.2.1 (by decide) ?_
      refine lv_goto (tgt := 25) hx hb gX4_refusal_1.2.2.2.1 (by decide) ?_
      refine toQ hQ0 ?_
      exact RP (v := 0) hC (Or.inr (Or.inl ⟨rfl, ⟨c_8_2572, c_16_2573⟩⟩)) rfl gX4_refusal_1.2.2.2.2.2
  · refine lv_bipush (v := (-11)) hx hb gX4_refusal_0.2.2.2.2.2.2.2.1 (by decide) ?_
    refine toQ hQ0 ?_
    exact RP (v := (-11)) hC (Or.inl ⟨rfl, c_8_2572⟩) rfl gX4_refusal_0.2.2.2.2.2.2.2.2.1
def K_p_put (l : Launch) (G : GG) (h0 : Nat) (x1 : Int32) (x2 : Int32) (x3 : Int32) (bb : Nat) (kk : Nat) (ikp : Int32) (sg : Nat) (do9 : Nat) (ru9 : Nat) (ta9 : Nat) (tp9 : Nat) (ro9 : Nat) (ho9 : Nat) (de9 : Nat) (hs : Nat) (hz : Nat) (hi : Nat) (hw : Nat) (hn : Nat) (ht : Nat) (fhs : Nat → Int32) (fhz : Nat → Int32) (fhi : Nat → Int32) : Prop := MI l G yX11_put cX11_put 4 (some .int) 5 0 0 [.ref h0, .int x1, .int x2, .int x3] [(h0, oX11 bb kk ikp sg do9 ru9 ta9 tp9 ro9 ho9 de9), (ho9, oX4 hs hz hi hw hn ht), (hs, iA G 4 fhs), (hz, iA G 4 fhz), (hi, iA G 160 fhi)] (fun (r : Int32) (u : (Nat → Int32)) => (r = ifc (Wi x1 0 3) (ifc (fhs x1.toNatClampNeg = (-1)) (-11) (ifc (Wi x2 0 (fhz x1.toNatClampNeg - 1)) 1 (-12))) (-1)) ∧ (∀ i : Nat, u i = ifc (Wi x1 0 3) (ifc (fhs x1.toNatClampNeg = (-1)) (fhi i) (ifc (Wi x2 0 (fhz x1.toNatClampNeg - 1)) (upd fhi (x1.toNatClampNeg * 40 + x2.toNatClampNeg) (NARW (fhs x1.toNatClampNeg) x3) i) (fhi i))) (fhi i))) (fun u : (Nat → Int32) => [(h0, oX11 bb kk ikp sg do9 ru9 ta9 tp9 ro9 ho9 de9), (ho9, oX4 hs hz hi hw hn ht), (hs, iA G 4 fhs), (hz, iA G 4 fhz), (hi, iA G 160 u)])
set_option maxHeartbeats 4000000 in
set_option maxRecDepth 100000 in
theorem p_put (l : Launch) (G : GG) (h0 : Nat) (x1 : Int32) (x2 : Int32) (x3 : Int32) (bb : Nat) (kk : Nat) (ikp : Int32) (sg : Nat) (do9 : Nat) (ru9 : Nat) (ta9 : Nat) (tp9 : Nat) (ro9 : Nat) (ho9 : Nat) (de9 : Nat) (hs : Nat) (hz : Nat) (hi : Nat) (hw : Nat) (hn : Nat) (ht : Nat) (fhs : Nat → Int32) (fhz : Nat → Int32) (fhi : Nat → Int32) (hZ : SZ fhz) : K_p_put l G h0 x1 x2 x3 bb kk ikp sg do9 ru9 ta9 tp9 ro9 ho9 de9 hs hz hi hw hn ht fhs fhz fhi := by
  refine MI.start (by decide +kernel) (Nat.le_of_ble_eq_true rfl) ?_
  intro p e s m below meth c A ls hC hK hP hD hS hA hl
  refine absQ (fun Q0 hQ0 => ?_)
  have hl : lv_has ls 4 [(0, .ref h0), (1, .int x1), (2, .int x2), (3, .int x3)] := hl
  refine Kan8 hC (fun hx hb hr hml hB hown hlocks hnm => ?_)
  refine lv_iload_n hx hb gX11_put_0.1 rfl (lv_at1 hl) ?_
  refine pS hC hK hl (c_isSheet l G x1) si_X11_164 rfl rfl (Nat.le_of_ble_eq_true rfl) rm_5_2_1 ⟨by first | exact Nat.le_of_ble_eq_true rfl | exact Nat.zero_le _, by first | exact Nat.le_of_ble_eq_true rfl | exact Nat.zero_le _⟩ gX11_put_0.2.1 (Kors (Keqa fun a2575 => ?_) (Keqa fun a2575 => ?_))
  · refine lv_if_ne (tgt := 9) hx hb gX11_put_0.2.2.1 (by decide) (fun _ => ?_) (fun c9 => absurd c9 (by decide))
    obtain ⟨jt, hjt, rfl⟩ := Wi3 a2575
    refine lv_aload_n hx hb gX11_put_0.2.2.2.2.2.1 rfl (lv_at0 hl) ?_
    refine gf_X11_72 hC rfl hK hP 0 rfl rfl gX11_put_0.2.2.2.2.2.2.1 ?_
    refine lv_iload_n hx hb gX11_put_0.2.2.2.2.2.2.2.1 rfl (lv_at1 hl) ?_
    refine pV hC hK hl hP hD (c_sortX l G ho9 jt hs hz hi hw hn ht fhs (by omega)) si_X11_309 [1, 2] sm_1_2 fm_1_2 nd_1_2 rfl rfl rfl rfl rfl (Nat.le_of_ble_eq_true rfl) rm_5_3_2 ⟨by first | exact Nat.le_of_ble_eq_true rfl | exact Nat.zero_le _, by first | exact Nat.le_of_ble_eq_true rfl | exact Nat.zero_le _⟩ gX11_put_0.2.2.2.2.2.2.2.2.1 (Keqr ?_)
    refine lv_iconst (v := (-1)) hx hb gX11_put_0.2.2.2.2.2.2.2.2.2 (by decide) ?_
    refine lv_icmp_ne (tgt := 24) hx hb gX11_put_1.1 (by decide) (fun c_18_2578 => ?_) (fun c_18_2578 => ?_)
    · refine lv_iload_n hx hb gX11_put_1.2.2.2.1 rfl (lv_at2 hl) ?_
      refine lv_iconst (v := 0) hx hb gX11_put_1.2.2.2.2.1 (by decide) ?_
      refine lv_aload_n hx hb gX11_put_1.2.2.2.2.2.1 rfl (lv_at0 hl) ?_
      refine gf_X11_72 hC rfl hK hP 0 rfl rfl gX11_put_1.2.2.2.2.2.2.1 ?_
      refine lv_iload_n hx hb gX11_put_1.2.2.2.2.2.2.2.1 rfl (lv_at1 hl) ?_
      refine pV hC hK hl hP hD (c_sizeX l G ho9 jt hs hz hi hw hn ht fhz (by omega)) si_X11_170 [1, 3] sm_1_3 fm_1_3 nd_1_3 rfl rfl rfl rfl rfl (Nat.le_of_ble_eq_true rfl) rm_5_3_2 ⟨by first | exact Nat.le_of_ble_eq_true rfl | exact Nat.zero_le _, by first | exact Nat.le_of_ble_eq_true rfl | exact Nat.zero_le _⟩ gX11_put_1.2.2.2.2.2.2.2.2.1 (Keqr ?_)
      refine lv_iconst (v := 1) hx hb gX11_put_1.2.2.2.2.2.2.2.2.2 (by decide) ?_
      refine lv_isub hx hb gX11_put_2.1 ?_
      refine pS hC hK hl (c_within l G x2 0 ((fhz jt) - 1)) si_X11_83 rfl rfl (Nat.le_of_ble_eq_true rfl) rm_5_1_3 ⟨by first | exact Nat.le_of_ble_eq_true rfl | exact Nat.zero_le _, by first | exact Nat.le_of_ble_eq_true rfl | exact Nat.zero_le _⟩ gX11_put_2.2.1 (Kors (Keqa fun a2582 => ?_) (Keqa fun a2582 => ?_))
      · refine lv_if_ne (tgt := 45) hx hb gX11_put_2.2.2.1 (by decide) (fun _ => ?_) (fun c9 => absurd c9 (by decide))
        obtain ⟨ji, hji, rfl⟩ := SZ.at hZ (i := jt) (by omega) rfl a2582
        refine lv_aload_n hx hb gX11_put_2.2.2.2.2.2.1 rfl (lv_at0 hl) ?_
        refine gf_X11_72 hC rfl hK hP 0 rfl rfl gX11_put_2.2.2.2.2.2.2.1 ?_
        refine lv_iload_n hx hb gX11_put_2.2.2.2.2.2.2.2.1 rfl (lv_at1 hl) ?_
        refine lv_iload_n hx hb gX11_put_2.2.2.2.2.2.2.2.2.1 rfl (lv_at2 hl) ?_
        refine lv_iload_n hx hb gX11_put_2.2.2.2.2.2.2.2.2.2 rfl (lv_at3 hl) ?_
        refine vV (wr := [(h0, oX11 bb kk ikp sg do9 ru9 ta9 tp9 ro9 ho9 de9), (hz, iA G 4 fhz)]) hC hK hl hP hD hS hA (c_writeX l G ho9 jt ji hs hz hi hw hn ht fhs fhi x3 (by omega) (by omega)) si_X11_312 [1, 2, 4] [0, 3] sm_1_2_4 fm_1_2_4 nd_1_2_4 sm_0_3 nd_0_3 dj_1_2_4__0_3 rfl rfl rfl rfl rfl (Nat.le_of_ble_eq_true rfl) rm_5_3_5 ⟨Nat.le_of_ble_eq_true rfl, Nat.le_of_ble_eq_true rfl⟩ gX11_put_3.1 (fun ghi2585 H locs hr2583 hP hD hS => ?_)
        try dsimp only at hr2583
        refine Kpdr (ws := [(h0, oX11 bb kk ikp sg do9 ru9 ta9 tp9 ro9 ho9 de9), (hz, iA G 4 fhz), (ho9, oX4 hs hz hi hw hn ht), (hs, iA G 4 fhs), (hi, iA G 160 ghi2585)]) hP hD (fun hP hD => ?_)
        have w2586 := hr2583
        refine lv_iconst (v := 1) hx hb gX11_put_3.2.1 (by decide) ?_
        refine toQ hQ0 ?_
        exact RI (v := 1) hC hP hD hS [0, 2, 3, 1, 4] ghi2585 rfl rfl (by decide) (⟨(by first | rfl | (simp only [nI_clamp (n := jt) (by omega), nI_clamp (n := ji) (by omega), ifc_t hZ, ifc_t a2575, ifc_f c_18_2578, ifc_t a2582]; done) | (simp only [nI_clamp (n := jt) (by omega), nI_clamp (n := ji) (by omega), ifc_t hZ, ifc_t a2575, ifc_f c_18_2578, ifc_t a2582]; rfl)), (fun i => by rw [w2586 i]; first | rfl | (simp only [nI_clamp (n := jt) (by omega), nI_clamp (n := ji) (by omega), ifc_t hZ, ifc_t a2575, ifc_f c_18_2578, ifc_t a2582]; done) | (simp only [nI_clamp (n := jt) (by omega), nI_clamp (n := ji) (by omega), ifc_t hZ, ifc_t a2575, ifc_f c_18_2578, ifc_t a2582]; rfl))⟩) rfl gX11_put_3.2.2
      · refine lv_if_ne (tgt := 45) hx hb gX11_put_2.2.2.1 (by decide) (fun c9 => absurd (by decide) c9) (fun _ => ?_)
        refine lv_bipush (v := (-12)) hx hb gX11_put_2.2.2.2.1 (by decide) ?_
        refine toQ hQ0 ?_
        exact RI (v := (-12)) hC hP hD hS [0, 1, 2, 3, 4] fhi rfl rfl (by decide) (⟨(by first | rfl | (simp only [nI_clamp (n := jt) (by omega), ifc_t hZ, ifc_t a2575, ifc_f c_18_2578, ifc_f a2582]; done) | (simp only [nI_clamp (n := jt) (by omega), ifc_t hZ, ifc_t a2575, ifc_f c_18_2578, ifc_f a2582]; rfl)), (fun i => by skip; first | rfl | (simp only [nI_clamp (n := jt) (by omega), ifc_t hZ, ifc_t a2575, ifc_f c_18_2578, ifc_f a2582]; done) | (simp only [nI_clamp (n := jt) (by omega), ifc_t hZ, ifc_t a2575, ifc_f c_18_2578, ifc_f a2582]; rfl))⟩) rfl gX11_put_2.2.2.2.2.1
    · refine lv_bipush (v := (-11)) hx hb gX11_put_1.2.1 (by decide) ?_
      refine toQ hQ0 ?_
      exact RI (v := (-11)) hC hP hD hS [0, 1, 2, 3, 4] fhi rfl rfl (by decide) (⟨(by first | rfl | (simp only [nI_clamp (n := jt) (by omega), ifc_t hZ, ifc_t a2575, ifc_t c_18_2578]; done) | (simp only [nI_clamp (n := jt) (by omega), ifc_t hZ, ifc_t a2575, ifc_t c_18_2578]; rfl)), (fun i => by skip; first | rfl | (simp only [nI_clamp (n := jt) (by omega), ifc_t hZ, ifc_t a2575, ifc_t c_18_2578]; done) | (simp only [nI_clamp (n := jt) (by omega), ifc_t hZ, ifc_t a2575, ifc_t c_18_2578]; rfl))⟩) rfl gX11_put_1.2.2.1
  · refine lv_if_ne (tgt := 9) hx hb gX11_put_0.2.2.1 (by decide) (fun c9 => absurd (by decide) c9) (fun _ => ?_)
    refine lv_iconst (v := (-1)) hx hb gX11_put_0.2.2.2.1 (by decide) ?_
    refine toQ hQ0 ?_
    exact RI (v := (-1)) hC hP hD hS [0, 1, 2, 3, 4] fhi rfl rfl (by decide) (⟨(by first | rfl | (simp only [ifc_t hZ, ifc_f a2575]; done) | (simp only [ifc_t hZ, ifc_f a2575]; rfl)), (fun i => by skip; first | rfl | (simp only [ifc_t hZ, ifc_f a2575]; done) | (simp only [ifc_t hZ, ifc_f a2575]; rfl))⟩) rfl gX11_put_0.2.2.2.2.1
def K_p_item (l : Launch) (G : GG) (h0 : Nat) (x1 : Int32) (x2 : Int32) (x3 : Int32) (bb : Nat) (kk : Nat) (ikp : Int32) (sg : Nat) (do9 : Nat) (ru9 : Nat) (ta9 : Nat) (tp9 : Nat) (ro9 : Nat) (ho9 : Nat) (de9 : Nat) (hs : Nat) (hz : Nat) (hi : Nat) (hw : Nat) (hn : Nat) (ht : Nat) (fhs : Nat → Int32) (fhz : Nat → Int32) (fhi : Nat → Int32) : Prop := MP l G yX11_item cX11_item 5 (some .int) 6 [.ref h0, .int x1, .int x2, .int x3] [(h0, oX11 bb kk ikp sg do9 ru9 ta9 tp9 ro9 ho9 de9), (ho9, oX4 hs hz hi hw hn ht), (hs, iA G 4 fhs), (hz, iA G 4 fhz), (hi, iA G 160 fhi)] (fun r : Int32 => r = ifc (Wi x1 0 3) (ifc (Wi x2 0 4) (ifc (fhs x1.toNatClampNeg = (-1)) (-11) (ifc (fhs x1.toNatClampNeg = x2) (ifc (Wi x3 0 (fhz x1.toNatClampNeg - 1)) (fhi (x1.toNatClampNeg * 40 + x3.toNatClampNeg)) (-12)) (-13))) (-1)) (-1))
set_option maxHeartbeats 4000000 in
set_option maxRecDepth 100000 in
theorem p_item (l : Launch) (G : GG) (h0 : Nat) (x1 : Int32) (x2 : Int32) (x3 : Int32) (bb : Nat) (kk : Nat) (ikp : Int32) (sg : Nat) (do9 : Nat) (ru9 : Nat) (ta9 : Nat) (tp9 : Nat) (ro9 : Nat) (ho9 : Nat) (de9 : Nat) (hs : Nat) (hz : Nat) (hi : Nat) (hw : Nat) (hn : Nat) (ht : Nat) (fhs : Nat → Int32) (fhz : Nat → Int32) (fhi : Nat → Int32) (hZ : SZ fhz) : K_p_item l G h0 x1 x2 x3 bb kk ikp sg do9 ru9 ta9 tp9 ro9 ho9 de9 hs hz hi hw hn ht fhs fhz fhi := by
  refine MP.start (by decide +kernel) (Nat.le_of_ble_eq_true rfl) ?_
  intro p e s m below meth c ls hC hK hP hD hl
  refine absQ (fun Q0 hQ0 => ?_)
  have hl : lv_has ls 5 [(0, .ref h0), (1, .int x1), (2, .int x2), (3, .int x3)] := hl
  refine Kan8 hC (fun hx hb hr hml hB hown hlocks hnm => ?_)
  refine lv_iload_n hx hb gX11_item_0.1 rfl (lv_at1 hl) ?_
  refine pS hC hK hl (c_isSheet l G x1) si_X11_164 rfl rfl (Nat.le_of_ble_eq_true rfl) rm_6_2_1 ⟨by first | exact Nat.le_of_ble_eq_true rfl | exact Nat.zero_le _, by first | exact Nat.le_of_ble_eq_true rfl | exact Nat.zero_le _⟩ gX11_item_0.2.1 (Kors (Keqa fun a2588 => ?_) (Keqa fun a2588 => ?_))
  · refine lv_if_eq (tgt := 14) hx hb gX11_item_0.2.2.1 (by decide) (fun c9 => absurd c9 (by decide)) (fun _ => ?_)
    refine lv_iload_n hx hb gX11_item_0.2.2.2.1 rfl (lv_at2 hl) ?_
    refine pS hC hK hl (c_isSort l G x2) si_X11_315 rfl rfl (Nat.le_of_ble_eq_true rfl) rm_6_2_1 ⟨by first | exact Nat.le_of_ble_eq_true rfl | exact Nat.zero_le _, by first | exact Nat.le_of_ble_eq_true rfl | exact Nat.zero_le _⟩ gX11_item_0.2.2.2.2.1 (Kors (Keqa fun a2590 => ?_) (Keqa fun a2590 => ?_))
    · refine lv_if_ne (tgt := 16) hx hb gX11_item_0.2.2.2.2.2.1 (by decide) (fun _ => ?_) (fun c9 => absurd c9 (by decide))
      obtain ⟨jt, hjt, rfl⟩ := Wi3 a2588
      refine lv_aload_n hx hb gX11_item_0.2.2.2.2.2.2.2.2.1 rfl (lv_at0 hl) ?_
      refine gf_X11_72 hC rfl hK hP 0 rfl rfl gX11_item_0.2.2.2.2.2.2.2.2.2 ?_
      refine lv_iload_n hx hb gX11_item_1.1 rfl (lv_at1 hl) ?_
      refine lv_iload_n hx hb gX11_item_1.2.1 rfl (lv_at2 hl) ?_
      refine pV hC hK hl hP hD (c_refX l G ho9 jt hs hz hi hw hn ht fhs x2 (by omega)) si_X11_167 [1, 2] sm_1_2 fm_1_2 nd_1_2 rfl rfl rfl rfl rfl (Nat.le_of_ble_eq_true rfl) rm_6_4_4 ⟨by first | exact Nat.le_of_ble_eq_true rfl | exact Nat.zero_le _, by first | exact Nat.le_of_ble_eq_true rfl | exact Nat.zero_le _⟩ gX11_item_1.2.2.1 (Kors (Keqa fun a2592 => ?_) (Kors (Keqa fun a2592 => ?_) (Keqa fun a2592 => ?_)))
      · refine lv_istore (lv' := [(4, .int (-11)), (0, .ref h0), (1, .int (nI jt)), (2, .int x2), (3, .int x3)]) hx hb gX11_item_1.2.2.2.1 hl (by decide) rfl (fun ls hl => ?_)
        refine lv_iload hx hb gX11_item_1.2.2.2.2.1 (lv_at0 hl) ?_
        refine lv_if_eq (tgt := 35) hx hb gX11_item_1.2.2.2.2.2.1 (by decide) (fun c9 => absurd c9 (by decide)) (fun _ => ?_)
        refine lv_iload hx hb gX11_item_1.2.2.2.2.2.2.1 (lv_at0 hl) ?_
        refine toQ hQ0 ?_
        exact RP (v := (-11)) hC ((by first | rfl | (simp only [nI_clamp (n := jt) (by omega), ifc_t hZ, ifc_t a2588, ifc_t a2590, ifc_t a2592]; done) | (simp only [nI_clamp (n := jt) (by omega), ifc_t hZ, ifc_t a2588, ifc_t a2590, ifc_t a2592]; rfl))) rfl gX11_item_1.2.2.2.2.2.2.2.1
      · refine lv_istore (lv' := [(4, .int 0), (0, .ref h0), (1, .int (nI jt)), (2, .int x2), (3, .int x3)]) hx hb gX11_item_1.2.2.2.1 hl (by decide) rfl (fun ls hl => ?_)
        refine lv_iload hx hb gX11_item_1.2.2.2.2.1 (lv_at0 hl) ?_
        refine lv_if_eq (tgt := 35) hx hb gX11_item_1.2.2.2.2.2.1 (by decide) (fun _ => ?_) (fun c9 => absurd (by decide) c9)
        refine lv_iload_n hx hb gX11_item_1.2.2.2.2.2.2.2.2.1 rfl (lv_at4 hl) ?_
        refine lv_iconst (v := 0) hx hb gX11_item_1.2.2.2.2.2.2.2.2.2 (by decide) ?_
        refine lv_aload_n hx hb gX11_item_2.1 rfl (lv_at1 hl) ?_
        refine gf_X11_72 hC rfl hK hP 0 rfl rfl gX11_item_2.2.1 ?_
        refine lv_iload_n hx hb gX11_item_2.2.2.1 rfl (lv_at2 hl) ?_
        refine pV hC hK hl hP hD (c_sizeX l G ho9 jt hs hz hi hw hn ht fhz (by omega)) si_X11_170 [1, 3] sm_1_3 fm_1_3 nd_1_3 rfl rfl rfl rfl rfl (Nat.le_of_ble_eq_true rfl) rm_6_3_2 ⟨by first | exact Nat.le_of_ble_eq_true rfl | exact Nat.zero_le _, by first | exact Nat.le_of_ble_eq_true rfl | exact Nat.zero_le _⟩ gX11_item_2.2.2.2.1 (Keqr ?_)
        refine lv_iconst (v := 1) hx hb gX11_item_2.2.2.2.2.1 (by decide) ?_
        refine lv_isub hx hb gX11_item_2.2.2.2.2.2.1 ?_
        refine pS hC hK hl (c_within l G x3 0 ((fhz jt) - 1)) si_X11_83 rfl rfl (Nat.le_of_ble_eq_true rfl) rm_6_1_3 ⟨by first | exact Nat.le_of_ble_eq_true rfl | exact Nat.zero_le _, by first | exact Nat.le_of_ble_eq_true rfl | exact Nat.zero_le _⟩ gX11_item_2.2.2.2.2.2.2.1 (Kors (Keqa fun a2596 => ?_) (Keqa fun a2596 => ?_))
        · refine lv_if_ne (tgt := 56) hx hb gX11_item_2.2.2.2.2.2.2.2.1 (by decide) (fun _ => ?_) (fun c9 => absurd c9 (by decide))
          obtain ⟨ji, hji, rfl⟩ := SZ.at hZ (i := jt) (by omega) rfl a2596
          refine lv_aload_n hx hb gX11_item_3.1 rfl (lv_at1 hl) ?_
          refine gf_X11_72 hC rfl hK hP 0 rfl rfl gX11_item_3.2.1 ?_
          refine lv_iload_n hx hb gX11_item_3.2.2.1 rfl (lv_at2 hl) ?_
          refine lv_iload_n hx hb gX11_item_3.2.2.2.1 rfl (lv_at4 hl) ?_
          refine pV hC hK hl hP hD (c_atX l G ho9 jt ji hs hz hi hw hn ht fhi (by omega) (by omega)) si_X11_173 [1, 4] sm_1_4 fm_1_4 nd_1_4 rfl rfl rfl rfl rfl (Nat.le_of_ble_eq_true rfl) rm_6_3_3 ⟨by first | exact Nat.le_of_ble_eq_true rfl | exact Nat.zero_le _, by first | exact Nat.le_of_ble_eq_true rfl | exact Nat.zero_le _⟩ gX11_item_3.2.2.2.2.1 (Keqr ?_)
          refine toQ hQ0 ?_
          exact RP (v := fhi (jt * 40 + ji)) hC ((by first | rfl | (simp only [nI_clamp (n := jt) (by omega), nI_clamp (n := ji) (by omega), ifc_t hZ, ifc_t a2588, ifc_t a2590, ifc_t a2592, ifc_t a2596, ifc_f a2592.1, ifc_t a2592.2]; done) | (simp only [nI_clamp (n := jt) (by omega), nI_clamp (n := ji) (by omega), ifc_t hZ, ifc_t a2588, ifc_t a2590, ifc_t a2592, ifc_t a2596, ifc_f a2592.1, ifc_t a2592.2]; rfl))) rfl gX11_item_3.2.2.2.2.2
        · refine lv_if_ne (tgt := 56) hx hb gX11_item_2.2.2.2.2.2.2.2.1 (by decide) (fun c9 => absurd (by decide) c9) (fun _ => ?_)
          refine lv_bipush (v := (-12)) hx hb gX11_item_2.2.2.2.2.2.2.2.2.1 (by decide) ?_
          refine toQ hQ0 ?_
          exact RP (v := (-12)) hC ((by first | rfl | (simp only [nI_clamp (n := jt) (by omega), ifc_t hZ, ifc_t a2588, ifc_t a2590, ifc_t a2592, ifc_f a2596, ifc_f a2592.1, ifc_t a2592.2]; done) | (simp only [nI_clamp (n := jt) (by omega), ifc_t hZ, ifc_t a2588, ifc_t a2590, ifc_t a2592, ifc_f a2596, ifc_f a2592.1, ifc_t a2592.2]; rfl))) rfl gX11_item_2.2.2.2.2.2.2.2.2.2
      · refine lv_istore (lv' := [(4, .int (-13)), (0, .ref h0), (1, .int (nI jt)), (2, .int x2), (3, .int x3)]) hx hb gX11_item_1.2.2.2.1 hl (by decide) rfl (fun ls hl => ?_)
        refine lv_iload hx hb gX11_item_1.2.2.2.2.1 (lv_at0 hl) ?_
        refine lv_if_eq (tgt := 35) hx hb gX11_item_1.2.2.2.2.2.1 (by decide) (fun c9 => absurd c9 (by decide)) (fun _ => ?_)
        refine lv_iload hx hb gX11_item_1.2.2.2.2.2.2.1 (lv_at0 hl) ?_
        refine toQ hQ0 ?_
        exact RP (v := (-13)) hC ((by first | rfl | (simp only [nI_clamp (n := jt) (by omega), ifc_t hZ, ifc_t a2588, ifc_t a2590, ifc_t a2592, ifc_f a2592.1, ifc_f a2592.2]; done) | (simp only [nI_clamp (n := jt) (by omega), ifc_t hZ, ifc_t a2588, ifc_t a2590, ifc_t a2592, ifc_f a2592.1, ifc_f a2592.2]; rfl))) rfl gX11_item_1.2.2.2.2.2.2.2.1
    · refine lv_if_ne (tgt := 16) hx hb gX11_item_0.2.2.2.2.2.1 (by decide) (fun c9 => absurd (by decide) c9) (fun _ => ?_)
      refine lv_iconst (v := (-1)) hx hb gX11_item_0.2.2.2.2.2.2.1 (by decide) ?_
      refine toQ hQ0 ?_
      exact RP (v := (-1)) hC ((by first | rfl | (simp only [ifc_t hZ, ifc_t a2588, ifc_f a2590]; done) | (simp only [ifc_t hZ, ifc_t a2588, ifc_f a2590]; rfl))) rfl gX11_item_0.2.2.2.2.2.2.2.1
  · refine lv_if_eq (tgt := 14) hx hb gX11_item_0.2.2.1 (by decide) (fun _ => ?_) (fun c9 => absurd (by decide) c9)
    refine lv_iconst (v := (-1)) hx hb gX11_item_0.2.2.2.2.2.2.1 (by decide) ?_
    refine toQ hQ0 ?_
    exact RP (v := (-1)) hC ((by first | rfl | (simp only [ifc_t hZ, ifc_f a2588]; done) | (simp only [ifc_t hZ, ifc_f a2588]; rfl))) rfl gX11_item_0.2.2.2.2.2.2.2.1
def K_p_stamps (l : Launch) (G : GG) (h0 : Nat) (x1 : Int32) (x2 : Int32) (x3 : Int32) (x4 : Int32) (bb : Nat) (kk : Nat) (ikp : Int32) (sg : Nat) (do9 : Nat) (ru9 : Nat) (ta9 : Nat) (tp9 : Nat) (ro9 : Nat) (ho9 : Nat) (de9 : Nat) (bpersons : Nat) (bpapers : Nat) (bstamps : Nat) (bversions : Nat) (blines : Nat) (bsteps : Nat) (bsayings : Nat) (bfindings : Nat) (bwarnings : Nat) (bquestions : Nat) (td : Int32) (vd : Int32) (vl : Int32) (gp : Int32) (bpapersc : Nat) (kbpapers : Nat) (bstampsc : Nat) (kbstamps : Nat) (fbstamps : Nat → Int32) (hs : Nat) (hz : Nat) (hi : Nat) (hw : Nat) (hn : Nat) (ht : Nat) (fhs : Nat → Int32) (fhz : Nat → Int32) (fhi : Nat → Int32) : Prop := MI l G yX11_stamps cX11_stamps 7 (some .int) 5 0 0 [.ref h0, .int x1, .int x2, .int x3, .int x4] [(h0, oX11 bb kk ikp sg do9 ru9 ta9 tp9 ro9 ho9 de9), (bb, oX0 bpersons bpapers bstamps bversions blines bsteps bsayings bfindings bwarnings bquestions td vd vl gp), (bpapers, oX8 12 6 bpapersc (nI kbpapers)), (bstamps, oX8 24 3 bstampsc (nI kbstamps)), (bstampsc, iA G 72 fbstamps), (ho9, oX4 hs hz hi hw hn ht), (hs, iA G 4 fhs), (hz, iA G 4 fhz), (hi, iA G 160 fhi)] (fun (r : Int32) (u : Nat × (Nat → Int32)) => (r = STA x1 x2 x3 x4 kbpapers kbstamps fhs fhz fhi) ∧ (u.1 ≤ 24 ∧ nI u.1 = STK (STA x1 x2 x3 x4 kbpapers kbstamps fhs fhz fhi) kbstamps ∧ ∀ i : Nat, u.2 i = ifc (STA x1 x2 x3 x4 kbpapers kbstamps fhs fhz fhi < 0) (fbstamps i) (APS fbstamps kbstamps x1 fhi (x2.toNatClampNeg * 40) x3.toNatClampNeg x4.toNatClampNeg i))) (fun u : Nat × (Nat → Int32) => [(h0, oX11 bb kk ikp sg do9 ru9 ta9 tp9 ro9 ho9 de9), (bb, oX0 bpersons bpapers bstamps bversions blines bsteps bsayings bfindings bwarnings bquestions td vd vl gp), (bpapers, oX8 12 6 bpapersc (nI kbpapers)), (bstamps, oX8 24 3 bstampsc (nI u.1)), (bstampsc, iA G 72 u.2), (ho9, oX4 hs hz hi hw hn ht), (hs, iA G 4 fhs), (hz, iA G 4 fhz), (hi, iA G 160 fhi)])
set_option maxHeartbeats 4000000 in
set_option maxRecDepth 100000 in
theorem p_stamps (l : Launch) (G : GG) (h0 : Nat) (x1 : Int32) (x2 : Int32) (x3 : Int32) (x4 : Int32) (bb : Nat) (kk : Nat) (ikp : Int32) (sg : Nat) (do9 : Nat) (ru9 : Nat) (ta9 : Nat) (tp9 : Nat) (ro9 : Nat) (ho9 : Nat) (de9 : Nat) (bpersons : Nat) (bpapers : Nat) (bstamps : Nat) (bversions : Nat) (blines : Nat) (bsteps : Nat) (bsayings : Nat) (bfindings : Nat) (bwarnings : Nat) (bquestions : Nat) (td : Int32) (vd : Int32) (vl : Int32) (gp : Int32) (bpapersc : Nat) (kbpapers : Nat) (bstampsc : Nat) (kbstamps : Nat) (fbstamps : Nat → Int32) (hs : Nat) (hz : Nat) (hi : Nat) (hw : Nat) (hn : Nat) (ht : Nat) (fhs : Nat → Int32) (fhz : Nat → Int32) (fhi : Nat → Int32) (hkbpapers : kbpapers ≤ 12) (hkbstamps : kbstamps ≤ 24) (hZ : SZ fhz) (hO : SOK fhs) : K_p_stamps l G h0 x1 x2 x3 x4 bb kk ikp sg do9 ru9 ta9 tp9 ro9 ho9 de9 bpersons bpapers bstamps bversions blines bsteps bsayings bfindings bwarnings bquestions td vd vl gp bpapersc kbpapers bstampsc kbstamps fbstamps hs hz hi hw hn ht fhs fhz fhi := by
  refine MI.start (by decide +kernel) (Nat.le_of_ble_eq_true rfl) ?_
  intro p e s m below meth c A ls hC hK hP hD hS hA hl
  refine absQ (fun Q0 hQ0 => ?_)
  have hl : lv_has ls 7 [(0, .ref h0), (1, .int x1), (2, .int x2), (3, .int x3), (4, .int x4)] := hl
  refine Kan8 hC (fun hx hb hr hml hB hown hlocks hnm => ?_)
  refine lv_aload_n hx hb gX11_stamps_0.1 rfl (lv_at0 hl) ?_
  refine gf_X11_15 hC rfl hK hP 0 rfl rfl gX11_stamps_0.2.1 ?_
  refine gf_X11_144 hC rfl hK hP 1 rfl rfl gX11_stamps_0.2.2.1 ?_
  refine lv_iload_n hx hb gX11_stamps_0.2.2.2.1 rfl (lv_at1 hl) ?_
  refine pV hC hK hl hP hD (c_T_has l G bpapers x1 12 6 bpapersc kbpapers) si_X11_124 [2] sm_2 fm_2 nd_2 rfl rfl rfl rfl rfl (Nat.le_of_ble_eq_true rfl) rm_5_1_2 ⟨by first | exact Nat.le_of_ble_eq_true rfl | exact Nat.zero_le _, by first | exact Nat.le_of_ble_eq_true rfl | exact Nat.zero_le _⟩ gX11_stamps_0.2.2.2.2.1 (Kors (Keqa fun a2600 => ?_) (Keqa fun a2600 => ?_))
  · refine lv_if_eq (tgt := 32) hx hb gX11_stamps_0.2.2.2.2.2.1 (by decide) (fun c9 => absurd c9 (by decide)) (fun _ => ?_)
    refine lv_iload_n hx hb gX11_stamps_0.2.2.2.2.2.2.1 rfl (lv_at2 hl) ?_
    refine pS hC hK hl (c_isSheet l G x2) si_X11_164 rfl rfl (Nat.le_of_ble_eq_true rfl) rm_5_2_1 ⟨by first | exact Nat.le_of_ble_eq_true rfl | exact Nat.zero_le _, by first | exact Nat.le_of_ble_eq_true rfl | exact Nat.zero_le _⟩ gX11_stamps_0.2.2.2.2.2.2.2.1 (Kors (Keqa fun a2602 => ?_) (Keqa fun a2602 => ?_))
    · refine lv_if_eq (tgt := 32) hx hb gX11_stamps_0.2.2.2.2.2.2.2.2.1 (by decide) (fun c9 => absurd c9 (by decide)) (fun _ => ?_)
      refine lv_iload hx hb gX11_stamps_0.2.2.2.2.2.2.2.2.2 (lv_at4 hl) ?_
      refine lv_iconst (v := 0) hx hb gX11_stamps_1.1 (by decide) ?_
      refine lv_bipush (v := 9) hx hb gX11_stamps_1.2.1 (by decide) ?_
      refine pS hC hK hl (c_within l G x4 0 9) si_X11_83 rfl rfl (Nat.le_of_ble_eq_true rfl) rm_5_1_3 ⟨by first | exact Nat.le_of_ble_eq_true rfl | exact Nat.zero_le _, by first | exact Nat.le_of_ble_eq_true rfl | exact Nat.zero_le _⟩ gX11_stamps_1.2.2.1 (Kors (Keqa fun a2604 => ?_) (Keqa fun a2604 => ?_))
      · refine lv_if_ne (tgt := 34) hx hb gX11_stamps_1.2.2.2.1 (by decide) (fun _ => ?_) (fun c9 => absurd c9 (by decide))
        obtain ⟨jn, hjn, rfl⟩ := Wi_nat (N := 9) (by decide) a2604
        obtain ⟨jt, hjt, rfl⟩ := Wi3 a2602
        refine lv_aload_n hx hb gX11_stamps_1.2.2.2.2.2.2.1 rfl (lv_at0 hl) ?_
        refine gf_X11_72 hC rfl hK hP 0 rfl rfl gX11_stamps_1.2.2.2.2.2.2.2.1 ?_
        refine lv_iload_n hx hb gX11_stamps_1.2.2.2.2.2.2.2.2.1 rfl (lv_at2 hl) ?_
        refine lv_iconst (v := 1) hx hb gX11_stamps_1.2.2.2.2.2.2.2.2.2 (by decide) ?_
        refine pV hC hK hl hP hD (c_refX l G ho9 jt hs hz hi hw hn ht fhs 1 (by omega)) si_X11_167 [5, 6] sm_5_6 fm_5_6 nd_5_6 rfl rfl rfl rfl rfl (Nat.le_of_ble_eq_true rfl) rm_5_4_4 ⟨by first | exact Nat.le_of_ble_eq_true rfl | exact Nat.zero_le _, by first | exact Nat.le_of_ble_eq_true rfl | exact Nat.zero_le _⟩ gX11_stamps_2.1 (Kors (Keqa fun a2606 => ?_) (Kors (Keqa fun a2606 => ?_) (Keqa fun a2606 => ?_)))
        · refine lv_istore (lv' := [(5, .int (-11)), (0, .ref h0), (1, .int x1), (2, .int (nI jt)), (3, .int x3), (4, .int (nI jn))]) hx hb gX11_stamps_2.2.1 hl (by decide) rfl (fun ls hl => ?_)
          refine lv_iload hx hb gX11_stamps_2.2.2.1 (lv_at0 hl) ?_
          refine lv_if_eq (tgt := 53) hx hb gX11_stamps_2.2.2.2.1 (by decide) (fun c9 => absurd c9 (by decide)) (fun _ => ?_)
          refine lv_iload hx hb gX11_stamps_2.2.2.2.2.1 (lv_at0 hl) ?_
          have hA9 : STA x1 (nI jt) x3 (nI jn) kbpapers kbstamps fhs fhz fhi = (-11) := by unfold STA; first | (simp only [nI_clamp (n := jt) (by omega), nI_clamp (n := jn) (by omega), ifc_t hkbpapers, ifc_t hkbstamps, ifc_t hZ, ifc_t hO, ifc_t a2600, ifc_t a2602, ifc_t a2604, ifc_t a2606, ifc_t (q := fhs jt < 0) (by rw [a2606]; decide)]; done) | (simp only [nI_clamp (n := jt) (by omega), nI_clamp (n := jn) (by omega), ifc_t hkbpapers, ifc_t hkbstamps, ifc_t hZ, ifc_t hO, ifc_t a2600, ifc_t a2602, ifc_t a2604, ifc_t a2606, ifc_t (q := fhs jt < 0) (by rw [a2606]; decide)]; rfl)
          refine toQ hQ0 ?_
          exact RI (v := (-11)) hC hP hD hS [0, 1, 2, 3, 4, 5, 6, 7, 8] (kbstamps, fbstamps) rfl rfl (by decide) (⟨hA9.symm, ⟨by omega, (by unfold STK; rw [hA9]; exact (ifc_t (by decide)).symm), fun i => (by rw [hA9]; exact (ifc_t (by decide)).symm)⟩⟩) rfl gX11_stamps_2.2.2.2.2.2.1
        · refine lv_istore (lv' := [(5, .int 0), (0, .ref h0), (1, .int x1), (2, .int (nI jt)), (3, .int x3), (4, .int (nI jn))]) hx hb gX11_stamps_2.2.1 hl (by decide) rfl (fun ls hl => ?_)
          refine lv_iload hx hb gX11_stamps_2.2.2.1 (lv_at0 hl) ?_
          refine lv_if_eq (tgt := 53) hx hb gX11_stamps_2.2.2.2.1 (by decide) (fun _ => ?_) (fun c9 => absurd (by decide) c9)
          refine lv_iload_n hx hb gX11_stamps_2.2.2.2.2.2.2.1 rfl (lv_at4 hl) ?_
          refine lv_iconst (v := 0) hx hb gX11_stamps_2.2.2.2.2.2.2.2.1 (by decide) ?_
          refine lv_aload_n hx hb gX11_stamps_2.2.2.2.2.2.2.2.2.1 rfl (lv_at1 hl) ?_
          refine gf_X11_72 hC rfl hK hP 0 rfl rfl gX11_stamps_2.2.2.2.2.2.2.2.2.2 ?_
          refine lv_iload_n hx hb gX11_stamps_3.1 rfl (lv_at3 hl) ?_
          refine pV hC hK hl hP hD (c_sizeX l G ho9 jt hs hz hi hw hn ht fhz (by omega)) si_X11_170 [5, 7] sm_5_7 fm_5_7 nd_5_7 rfl rfl rfl rfl rfl (Nat.le_of_ble_eq_true rfl) rm_5_3_2 ⟨by first | exact Nat.le_of_ble_eq_true rfl | exact Nat.zero_le _, by first | exact Nat.le_of_ble_eq_true rfl | exact Nat.zero_le _⟩ gX11_stamps_3.2.1 (Keqr ?_)
          refine pS hC hK hl (c_within l G x3 0 (fhz jt)) si_X11_83 rfl rfl (Nat.le_of_ble_eq_true rfl) rm_5_1_3 ⟨by first | exact Nat.le_of_ble_eq_true rfl | exact Nat.zero_le _, by first | exact Nat.le_of_ble_eq_true rfl | exact Nat.zero_le _⟩ gX11_stamps_3.2.2.1 (Kors (Keqa fun a2610 => ?_) (Keqa fun a2610 => ?_))
          · refine lv_if_eq (tgt := 86) hx hb gX11_stamps_3.2.2.2.1 (by decide) (fun c9 => absurd c9 (by decide)) (fun _ => ?_)
            obtain ⟨jz, hjz, ejz⟩ := hZ jt (by omega)
            have hwz : Wi x3 0 (nI jz) := ejz ▸ a2610
            obtain ⟨ji, hji, rfl⟩ := Wi_nat (N := jz) (by omega) hwz
            refine lv_iconst (v := 2) hx hb gX11_stamps_3.2.2.2.2.1 (by decide) ?_
            refine lv_iload hx hb gX11_stamps_3.2.2.2.2.2.1 (lv_at5 hl) ?_
            refine lv_imul hx hb gX11_stamps_3.2.2.2.2.2.2.1 ?_
            refine eqi (x1 := nI (2 * jn)) (nI_mul 2 jn) ?_
            refine lv_aload_n hx hb gX11_stamps_3.2.2.2.2.2.2.2.1 rfl (lv_at1 hl) ?_
            refine gf_X11_72 hC rfl hK hP 0 rfl rfl gX11_stamps_3.2.2.2.2.2.2.2.2.1 ?_
            refine lv_iload_n hx hb gX11_stamps_3.2.2.2.2.2.2.2.2.2 rfl (lv_at3 hl) ?_
            refine pV hC hK hl hP hD (c_sizeX l G ho9 jt hs hz hi hw hn ht fhz (by omega)) si_X11_170 [5, 7] sm_5_7 fm_5_7 nd_5_7 rfl rfl rfl rfl rfl (Nat.le_of_ble_eq_true rfl) rm_5_3_2 ⟨by first | exact Nat.le_of_ble_eq_true rfl | exact Nat.zero_le _, by first | exact Nat.le_of_ble_eq_true rfl | exact Nat.zero_le _⟩ gX11_stamps_4.1 (Keqr ?_)
            refine lv_iload_n hx hb gX11_stamps_4.2.1 rfl (lv_at4 hl) ?_
            refine lv_isub hx hb gX11_stamps_4.2.2.1 ?_
            refine eqi (x1 := nI (jz - ji)) ((congrArg (fun z9 => z9 - nI ji) ejz).trans (nI_subN (by omega))) ?_
            refine lv_icmp_le (tgt := 89) hx hb gX11_stamps_4.2.2.2.1 (by decide) (fun c_83_2613 => ?_) (fun c_83_2613 => ?_)
            · have hfit9 : 2 * jn ≤ jz - ji := (nI_leI (by omega) (by omega)).mp c_83_2613
              refine lv_iconst (v := 0) hx hb gX11_stamps_4.2.2.2.2.2.2.1 (by decide) ?_
              refine lv_istore (lv' := [(6, .int 0), (5, .int 0), (0, .ref h0), (1, .int x1), (2, .int (nI jt)), (3, .int (nI ji)), (4, .int (nI jn))]) hx hb gX11_stamps_4.2.2.2.2.2.2.2.1 hl (by decide) rfl (fun ls hl => ?_)
              have keyA : ∀ (nA kA : Nat) (H : Heap) (locs : List Loc) (ls : Array Slot), kA + nA = jn → (ALS fhi (jt * 40) ji kA) → va_PD G A [(h0, oX11 bb kk ikp sg do9 ru9 ta9 tp9 ro9 ho9 de9), (bb, oX0 bpersons bpapers bstamps bversions blines bsteps bsayings bfindings bwarnings bquestions td vd vl gp), (bpapers, oX8 12 6 bpapersc (nI kbpapers)), (bstamps, oX8 24 3 bstampsc (nI kbstamps)), (bstampsc, iA G 72 fbstamps), (ho9, oX4 hs hz hi hw hn ht), (hs, iA G 4 fhs), (hz, iA G 4 fhz), (hi, iA G 160 fhi)] H → va_S A s.heap H locs → lv_has ls 7 [(6, .int (nI kA)), (0, .ref h0), (1, .int x1), (2, .int (nI jt)), (3, .int (nI ji)), (4, .int (nI jn))] → W p l e (RM 5 0 0) s m ([.ref h0, .int x1, .int (nI jt), .int (nI ji), .int (nI jn)] : List Value).toArray below meth c H locs 0 0 Q0 (F0 m 92 ls []) := by
                intro nA
                induction nA with
                | zero =>
                  intro kA H locs ls hkA hals hPD hS hl
                  refine Kan2 hPD (fun hP hD => ?_)
                  obtain rfl : jn = kA := by omega
                  have hl : lv_has ls 7 [(6, .int (nI jn)), (0, .ref h0), (1, .int x1), (2, .int (nI jt)), (3, .int (nI ji)), (4, .int (nI jn))] := hl
                  refine lv_iload hx hb gX11_stamps_4.2.2.2.2.2.2.2.2.1 (lv_at0 hl) ?_
                  refine lv_iload hx hb gX11_stamps_4.2.2.2.2.2.2.2.2.2 (lv_at5 hl) ?_
                  refine lv_icmp_ge (tgt := 144) hx hb gX11_stamps_5.1 (by decide) (fun _ => ?_) (fun c9 => absurd (Int32.le_refl _) c9)
                  refine lv_aload_n hx hb gX11_stamps_7.2.2.2.2.2.2.2.1 rfl (lv_at1 hl) ?_
                  refine gf_X11_15 hC rfl hK hP 0 rfl rfl gX11_stamps_7.2.2.2.2.2.2.2.2.1 ?_
                  refine gf_X11_157 hC rfl hK hP 1 rfl rfl gX11_stamps_7.2.2.2.2.2.2.2.2.2 ?_
                  refine pV hC hK hl hP hD (c_T_count l G bstamps 24 3 bstampsc kbstamps) si_X11_174 [3] sm_3 fm_3 nd_3 rfl rfl rfl rfl rfl (Nat.le_of_ble_eq_true rfl) rm_5_1_1 ⟨by first | exact Nat.le_of_ble_eq_true rfl | exact Nat.zero_le _, by first | exact Nat.le_of_ble_eq_true rfl | exact Nat.zero_le _⟩ gX11_stamps_8.1 (Keqr ?_)
                  refine lv_iload hx hb gX11_stamps_8.2.1 (lv_at5 hl) ?_
                  refine lv_iadd hx hb gX11_stamps_8.2.2.1 ?_
                  refine eqi (x1 := nI (kbstamps + jn)) (nI_add kbstamps jn) ?_
                  refine lv_bipush (v := 24) hx hb gX11_stamps_8.2.2.2.1 (by decide) ?_
                  refine lv_icmp_le (tgt := 165) hx hb gX11_stamps_8.2.2.2.2.1 (by decide) (fun c_159_2616 => ?_) (fun c_159_2616 => ?_)
                  · have h24 : kbstamps + jn ≤ 24 := ge_nat (k := 24) (by omega) (by decide) c_159_2616
                    refine lv_iconst (v := 0) hx hb gX11_stamps_8.2.2.2.2.2.2.2.1 (by decide) ?_
                    refine lv_istore (lv' := [(6, .int 0), (0, .ref h0), (1, .int x1), (2, .int (nI jt)), (3, .int (nI ji)), (4, .int (nI jn))]) hx hb gX11_stamps_8.2.2.2.2.2.2.2.2.1 hl (by decide) rfl (fun ls hl => ?_)
                    have keyB : ∀ (nB kB : Nat) (vst : Nat → Int32) (H : Heap) (locs : List Loc) (ls : Array Slot), kB + nB = jn → (vst = APS fbstamps kbstamps x1 fhi (jt * 40) ji kB) → va_PD G A [(h0, oX11 bb kk ikp sg do9 ru9 ta9 tp9 ro9 ho9 de9), (bb, oX0 bpersons bpapers bstamps bversions blines bsteps bsayings bfindings bwarnings bquestions td vd vl gp), (bpapers, oX8 12 6 bpapersc (nI kbpapers)), (bstamps, oX8 24 3 bstampsc (nI (kbstamps + kB))), (bstampsc, iA G 72 vst), (ho9, oX4 hs hz hi hw hn ht), (hs, iA G 4 fhs), (hz, iA G 4 fhz), (hi, iA G 160 fhi)] H → va_S A s.heap H locs → lv_has ls 7 [(6, .int (nI kB)), (0, .ref h0), (1, .int x1), (2, .int (nI jt)), (3, .int (nI ji)), (4, .int (nI jn))] → W p l e (RM 5 0 0) s m ([.ref h0, .int x1, .int (nI jt), .int (nI ji), .int (nI jn)] : List Value).toArray below meth c H locs 0 0 Q0 (F0 m 168 ls []) := by
                      intro nB
                      induction nB with
                      | zero =>
                        intro kB vst H locs ls hkB haps hPD hS hl
                        refine Kan2 hPD (fun hP hD => ?_)
                        obtain rfl : jn = kB := by omega
                        refine Kpdr (ws := [(h0, oX11 bb kk ikp sg do9 ru9 ta9 tp9 ro9 ho9 de9), (bb, oX0 bpersons bpapers bstamps bversions blines bsteps bsayings bfindings bwarnings bquestions td vd vl gp), (bpapers, oX8 12 6 bpapersc (nI kbpapers)), (bstamps, oX8 24 3 bstampsc (nI (kbstamps + jn))), (bstampsc, iA G 72 vst), (ho9, oX4 hs hz hi hw hn ht), (hs, iA G 4 fhs), (hz, iA G 4 fhz), (hi, iA G 160 fhi)]) hP hD (fun hP hD => ?_)
                        have hl : lv_has ls 7 [(6, .int (nI jn)), (0, .ref h0), (1, .int x1), (2, .int (nI jt)), (3, .int (nI ji)), (4, .int (nI jn))] := hl
                        refine lv_iload hx hb gX11_stamps_8.2.2.2.2.2.2.2.2.2 (lv_at0 hl) ?_
                        refine lv_iload hx hb gX11_stamps_9.1 (lv_at5 hl) ?_
                        refine lv_icmp_ge (tgt := 220) hx hb gX11_stamps_9.2.1 (by decide) (fun _ => ?_) (fun c9 => absurd (Int32.le_refl _) c9)
                        refine lv_aload_n hx hb gX11_stamps_11.2.2.2.2.2.2.2.2.2 rfl (lv_at1 hl) ?_
                        refine gf_X11_15 hC rfl hK hP 0 rfl rfl gX11_stamps_12.1 ?_
                        refine gf_X11_157 hC rfl hK hP 1 rfl rfl gX11_stamps_12.2.1 ?_
                        refine pV hC hK hl hP hD (c_T_count l G bstamps 24 3 bstampsc (kbstamps + jn)) si_X11_174 [3] sm_3 fm_3 nd_3 rfl rfl rfl rfl rfl (Nat.le_of_ble_eq_true rfl) rm_5_1_1 ⟨by first | exact Nat.le_of_ble_eq_true rfl | exact Nat.zero_le _, by first | exact Nat.le_of_ble_eq_true rfl | exact Nat.zero_le _⟩ gX11_stamps_12.2.2.1 (Keqr ?_)
                        have hA9 : STA x1 (nI jt) (nI ji) (nI jn) kbpapers kbstamps fhs fhz fhi = nI (kbstamps + jn) := by unfold STA; first | (simp only [nI_clamp (n := jt) (by omega), nI_clamp (n := ji) (by omega), nI_clamp (n := jn) (by omega), ifc_t hkbpapers, ifc_t hkbstamps, ifc_t hZ, ifc_t hO, ifc_t a2600, ifc_t a2602, ifc_t a2604, ifc_t a2606, ifc_t a2610, ifc_t c_83_2613, ifc_t c_159_2616, ifc_f (q := fhs jt < 0) (wi_nn (hO jt (by omega)) a2606.1), ifc_t (q := fhs jt = 1) a2606.2, ifc_f (q := OUTS (nI ji) (fhz jt) (nI jn)) (by rw [ejz, OUTS.iff (by omega) (by omega) (by omega)]; omega), ifc_t (q := ALS fhi (jt * 40) ji jn) hals, ifc_f (q := 24 < kbstamps + jn) (by omega)]; done) | (simp only [nI_clamp (n := jt) (by omega), nI_clamp (n := ji) (by omega), nI_clamp (n := jn) (by omega), ifc_t hkbpapers, ifc_t hkbstamps, ifc_t hZ, ifc_t hO, ifc_t a2600, ifc_t a2602, ifc_t a2604, ifc_t a2606, ifc_t a2610, ifc_t c_83_2613, ifc_t c_159_2616, ifc_f (q := fhs jt < 0) (wi_nn (hO jt (by omega)) a2606.1), ifc_t (q := fhs jt = 1) a2606.2, ifc_f (q := OUTS (nI ji) (fhz jt) (nI jn)) (by rw [ejz, OUTS.iff (by omega) (by omega) (by omega)]; omega), ifc_t (q := ALS fhi (jt * 40) ji jn) hals, ifc_f (q := 24 < kbstamps + jn) (by omega)]; rfl)
                        refine toQ hQ0 ?_
                        exact RI (v := nI (kbstamps + jn)) hC hP hD hS [0, 1, 2, 3, 4, 5, 6, 7, 8] ((kbstamps + jn), vst) rfl rfl (by decide) (⟨hA9.symm, ⟨by omega, (by unfold STK; rw [hA9]; exact (ifc_f (nI_nn (by omega))).symm), fun i => (by rw [hA9, ifc_f (nI_nn (by omega)), nI_clamp (n := jt) (by omega), nI_clamp (n := ji) (by omega), nI_clamp (n := jn) (by omega)]; exact congrFun haps i)⟩⟩) rfl gX11_stamps_12.2.2.2
                      | succ nB ihB =>
                        intro kB vst H locs ls hkB haps hPD hS hl
                        refine Kan2 hPD (fun hP hD => ?_)
                        refine lv_iload hx hb gX11_stamps_8.2.2.2.2.2.2.2.2.2 (lv_at0 hl) ?_
                        refine lv_iload hx hb gX11_stamps_9.1 (lv_at5 hl) ?_
                        refine lv_icmp_ge (tgt := 220) hx hb gX11_stamps_9.2.1 (by decide) (fun c9 => absurd c9 (nI_ge (a := kB) (b := jn) (by omega) (by omega))) (fun _ => ?_)
                        refine lv_aload_n hx hb gX11_stamps_9.2.2.1 rfl (lv_at1 hl) ?_
                        refine gf_X11_15 hC rfl hK hP 0 rfl rfl gX11_stamps_9.2.2.2.1 ?_
                        refine lv_iload_n hx hb gX11_stamps_9.2.2.2.2.1 rfl (lv_at2 hl) ?_
                        refine lv_aload_n hx hb gX11_stamps_9.2.2.2.2.2.1 rfl (lv_at1 hl) ?_
                        refine gf_X11_72 hC rfl hK hP 0 rfl rfl gX11_stamps_9.2.2.2.2.2.2.1 ?_
                        refine lv_iload_n hx hb gX11_stamps_9.2.2.2.2.2.2.2.1 rfl (lv_at3 hl) ?_
                        refine lv_iload_n hx hb gX11_stamps_9.2.2.2.2.2.2.2.2.1 rfl (lv_at4 hl) ?_
                        refine lv_iconst (v := 2) hx hb gX11_stamps_9.2.2.2.2.2.2.2.2.2 (by decide) ?_
                        refine lv_iload hx hb gX11_stamps_10.1 (lv_at0 hl) ?_
                        refine lv_imul hx hb gX11_stamps_10.2.1 ?_
                        refine eqi (x1 := nI (2 * kB)) (nI_mul 2 kB) ?_
                        refine lv_iadd hx hb gX11_stamps_10.2.2.1 ?_
                        refine eqi (x1 := nI (ji + 2 * kB)) (nI_add ji (2 * kB)) ?_
                        refine pV hC hK hl hP hD (c_atX l G ho9 jt (ji + 2 * kB) hs hz hi hw hn ht fhi (by omega) (by omega)) si_X11_173 [5, 8] sm_5_8 fm_5_8 nd_5_8 rfl rfl rfl rfl rfl (Nat.le_of_ble_eq_true rfl) rm_5_3_3 ⟨by first | exact Nat.le_of_ble_eq_true rfl | exact Nat.zero_le _, by first | exact Nat.le_of_ble_eq_true rfl | exact Nat.zero_le _⟩ gX11_stamps_10.2.2.2.1 (Keqr ?_)
                        refine lv_aload_n hx hb gX11_stamps_10.2.2.2.2.1 rfl (lv_at1 hl) ?_
                        refine gf_X11_72 hC rfl hK hP 0 rfl rfl gX11_stamps_10.2.2.2.2.2.1 ?_
                        refine lv_iload_n hx hb gX11_stamps_10.2.2.2.2.2.2.1 rfl (lv_at3 hl) ?_
                        refine lv_iload_n hx hb gX11_stamps_10.2.2.2.2.2.2.2.1 rfl (lv_at4 hl) ?_
                        refine lv_iconst (v := 2) hx hb gX11_stamps_10.2.2.2.2.2.2.2.2.1 (by decide) ?_
                        refine lv_iload hx hb gX11_stamps_10.2.2.2.2.2.2.2.2.2 (lv_at0 hl) ?_
                        refine lv_imul hx hb gX11_stamps_11.1 ?_
                        refine eqi (x1 := nI (2 * kB)) (nI_mul 2 kB) ?_
                        refine lv_iadd hx hb gX11_stamps_11.2.1 ?_
                        refine eqi (x1 := nI (ji + 2 * kB)) (nI_add ji (2 * kB)) ?_
                        refine lv_iconst (v := 1) hx hb gX11_stamps_11.2.2.1 (by decide) ?_
                        refine lv_iadd hx hb gX11_stamps_11.2.2.2.1 ?_
                        refine eqi (x1 := nI (ji + 2 * kB + 1)) (nI_add (ji + 2 * kB) 1) ?_
                        refine pV hC hK hl hP hD (c_atX l G ho9 jt (ji + 2 * kB + 1) hs hz hi hw hn ht fhi (by omega) (by omega)) si_X11_173 [5, 8] sm_5_8 fm_5_8 nd_5_8 rfl rfl rfl rfl rfl (Nat.le_of_ble_eq_true rfl) rm_5_3_3 ⟨by first | exact Nat.le_of_ble_eq_true rfl | exact Nat.zero_le _, by first | exact Nat.le_of_ble_eq_true rfl | exact Nat.zero_le _⟩ gX11_stamps_11.2.2.2.2.1 (Keqr ?_)
                        refine iV (wr := [(h0, oX11 bb kk ikp sg do9 ru9 ta9 tp9 ro9 ho9 de9), (bpapers, oX8 12 6 bpapersc (nI kbpapers)), (ho9, oX4 hs hz hi hw hn ht), (hs, iA G 4 fhs), (hz, iA G 4 fhz), (hi, iA G 160 fhi)]) hC hK hl hP hD hS hA (c_addStampX l G bb x1 (fhi (jt * 40 + (ji + 2 * kB))) (fhi (jt * 40 + (ji + 2 * kB + 1))) bpersons bpapers bstamps bversions blines bsteps bsayings bfindings bwarnings bquestions td vd vl gp bstampsc (kbstamps + kB) vst (by omega)) si_X11_160 [1, 3, 4] [0, 2, 5, 6, 7, 8] sm_1_3_4 fm_1_3_4 nd_1_3_4 sm_0_2_5_6_7_8 nd_0_2_5_6_7_8 dj_1_3_4__0_2_5_6_7_8 rfl rfl rfl rfl rfl (Nat.le_of_ble_eq_true rfl) rm_5_3_5 ⟨Nat.le_of_ble_eq_true rfl, Nat.le_of_ble_eq_true rfl⟩ gX11_stamps_11.2.2.2.2.2.1 (fun r2623 f92625 H locs hr2623 hP hD hS => ?_)
                        try dsimp only at hr2623
                        refine Kpdr (ws := [(h0, oX11 bb kk ikp sg do9 ru9 ta9 tp9 ro9 ho9 de9), (bpapers, oX8 12 6 bpapersc (nI kbpapers)), (ho9, oX4 hs hz hi hw hn ht), (hs, iA G 4 fhs), (hz, iA G 4 fhz), (hi, iA G 160 fhi), (bb, oX0 bpersons bpapers bstamps bversions blines bsteps bsayings bfindings bwarnings bquestions td vd vl gp), (bstamps, oX8 24 3 bstampsc (nI ((kbstamps + kB) + 1))), (bstampsc, iA G 72 f92625)]) hP hD (fun hP hD => ?_)
                        obtain ⟨hr2623, w2626⟩ := hr2623
                        obtain rfl := hr2623
                        refine lv_pop hx hb gX11_stamps_11.2.2.2.2.2.2.1 rfl ?_
                        refine lv_iinc (v := nI (kB + 1)) (lv' := [(6, .int (nI (kB + 1))), (0, .ref h0), (1, .int x1), (2, .int (nI jt)), (3, .int (nI ji)), (4, .int (nI jn))]) hx hb gX11_stamps_11.2.2.2.2.2.2.2.1 hl (k := 0) rfl (nI_1 _) (by decide) rfl (fun ls hl => ?_)
                        refine lv_goto (tgt := 168) hx hb gX11_stamps_11.2.2.2.2.2.2.2.2.1 (by decide) ?_
                        refine Kpds (ws' := [(h0, oX11 bb kk ikp sg do9 ru9 ta9 tp9 ro9 ho9 de9), (bb, oX0 bpersons bpapers bstamps bversions blines bsteps bsayings bfindings bwarnings bquestions td vd vl gp), (bpapers, oX8 12 6 bpapersc (nI kbpapers)), (bstamps, oX8 24 3 bstampsc (nI ((kbstamps + kB) + 1))), (bstampsc, iA G 72 f92625), (ho9, oX4 hs hz hi hw hn ht), (hs, iA G 4 fhs), (hz, iA G 4 fhz), (hi, iA G 160 fhi)]) hP hD [0, 6, 1, 7, 8, 2, 3, 4, 5] fm_0_6_1_7_8_2_3_4_5 nd_0_6_1_7_8_2_3_4_5 sm_0_6_1_7_8_2_3_4_5 (fun hP hD => ?_)
                        have hst9 : f92625 = APS fbstamps kbstamps x1 fhi (jt * 40) ji (kB + 1) := funext fun i => (w2626 i).trans (by rw [haps]; first | done | rfl)
                        exact ihB (kB + 1) f92625 _ _ _ (by omega) (by first | assumption | exact Or.inl rfl | exact Or.inr rfl | exact rfl) (And.intro hP hD) hS (lv_sub hl [0, 1, 2, 3, 4, 5] rfl)
                    exact keyB jn 0 fbstamps _ _ _ (by omega) (by first | assumption | exact Or.inl rfl | exact Or.inr rfl | exact rfl) (And.intro hP hD) hS (lv_sub hl [0, 1, 2, 3, 4, 5] rfl)
                  · refine lv_bipush (v := (-2)) hx hb gX11_stamps_8.2.2.2.2.2.1 (by decide) ?_
                    have hA9 : STA x1 (nI jt) (nI ji) (nI jn) kbpapers kbstamps fhs fhz fhi = (-2) := by unfold STA; first | (simp only [nI_clamp (n := jt) (by omega), nI_clamp (n := ji) (by omega), nI_clamp (n := jn) (by omega), ifc_t hkbpapers, ifc_t hkbstamps, ifc_t hZ, ifc_t hO, ifc_t a2600, ifc_t a2602, ifc_t a2604, ifc_t a2606, ifc_t a2610, ifc_t c_83_2613, ifc_f c_159_2616, ifc_f (q := fhs jt < 0) (wi_nn (hO jt (by omega)) a2606.1), ifc_t (q := fhs jt = 1) a2606.2, ifc_f (q := OUTS (nI ji) (fhz jt) (nI jn)) (by rw [ejz, OUTS.iff (by omega) (by omega) (by omega)]; omega), ifc_t (q := ALS fhi (jt * 40) ji jn) hals, ifc_t (q := 24 < kbstamps + jn) (by have h9 : ¬ kbstamps + jn ≤ 24 := fun h8 => c_159_2616 ((nI_leI (a := kbstamps + jn) (b := 24) (by omega) (by decide)).mpr h8); omega)]; done) | (simp only [nI_clamp (n := jt) (by omega), nI_clamp (n := ji) (by omega), nI_clamp (n := jn) (by omega), ifc_t hkbpapers, ifc_t hkbstamps, ifc_t hZ, ifc_t hO, ifc_t a2600, ifc_t a2602, ifc_t a2604, ifc_t a2606, ifc_t a2610, ifc_t c_83_2613, ifc_f c_159_2616, ifc_f (q := fhs jt < 0) (wi_nn (hO jt (by omega)) a2606.1), ifc_t (q := fhs jt = 1) a2606.2, ifc_f (q := OUTS (nI ji) (fhz jt) (nI jn)) (by rw [ejz, OUTS.iff (by omega) (by omega) (by omega)]; omega), ifc_t (q := ALS fhi (jt * 40) ji jn) hals, ifc_t (q := 24 < kbstamps + jn) (by have h9 : ¬ kbstamps + jn ≤ 24 := fun h8 => c_159_2616 ((nI_leI (a := kbstamps + jn) (b := 24) (by omega) (by decide)).mpr h8); omega)]; rfl)
                    refine toQ hQ0 ?_
                    exact RI (v := (-2)) hC hP hD hS [0, 1, 2, 3, 4, 5, 6, 7, 8] (kbstamps, fbstamps) rfl rfl (by decide) (⟨hA9.symm, ⟨by omega, (by unfold STK; rw [hA9]; exact (ifc_t (by decide)).symm), fun i => (by rw [hA9]; exact (ifc_t (by decide)).symm)⟩⟩) rfl gX11_stamps_8.2.2.2.2.2.2.1
                | succ nA ihA =>
                  intro kA H locs ls hkA hals hPD hS hl
                  refine Kan2 hPD (fun hP hD => ?_)
                  refine lv_iload hx hb gX11_stamps_4.2.2.2.2.2.2.2.2.1 (lv_at0 hl) ?_
                  refine lv_iload hx hb gX11_stamps_4.2.2.2.2.2.2.2.2.2 (lv_at5 hl) ?_
                  refine lv_icmp_ge (tgt := 144) hx hb gX11_stamps_5.1 (by decide) (fun c9 => absurd c9 (nI_ge (a := kA) (b := jn) (by omega) (by omega))) (fun _ => ?_)
                  refine lv_aload_n hx hb gX11_stamps_5.2.1 rfl (lv_at1 hl) ?_
                  refine gf_X11_72 hC rfl hK hP 0 rfl rfl gX11_stamps_5.2.2.1 ?_
                  refine lv_iload_n hx hb gX11_stamps_5.2.2.2.1 rfl (lv_at3 hl) ?_
                  refine lv_iload_n hx hb gX11_stamps_5.2.2.2.2.1 rfl (lv_at4 hl) ?_
                  refine lv_iconst (v := 2) hx hb gX11_stamps_5.2.2.2.2.2.1 (by decide) ?_
                  refine lv_iload hx hb gX11_stamps_5.2.2.2.2.2.2.1 (lv_at0 hl) ?_
                  refine lv_imul hx hb gX11_stamps_5.2.2.2.2.2.2.2.1 ?_
                  refine eqi (x1 := nI (2 * kA)) (nI_mul 2 kA) ?_
                  refine lv_iadd hx hb gX11_stamps_5.2.2.2.2.2.2.2.2.1 ?_
                  refine eqi (x1 := nI (ji + 2 * kA)) (nI_add ji (2 * kA)) ?_
                  refine pV hC hK hl hP hD (c_atX l G ho9 jt (ji + 2 * kA) hs hz hi hw hn ht fhi (by omega) (by omega)) si_X11_173 [5, 8] sm_5_8 fm_5_8 nd_5_8 rfl rfl rfl rfl rfl (Nat.le_of_ble_eq_true rfl) rm_5_3_3 ⟨by first | exact Nat.le_of_ble_eq_true rfl | exact Nat.zero_le _, by first | exact Nat.le_of_ble_eq_true rfl | exact Nat.zero_le _⟩ gX11_stamps_5.2.2.2.2.2.2.2.2.2 (Keqr ?_)
                  refine lv_aload_n hx hb gX11_stamps_6.1 rfl (lv_at1 hl) ?_
                  refine gf_X11_72 hC rfl hK hP 0 rfl rfl gX11_stamps_6.2.1 ?_
                  refine lv_iload_n hx hb gX11_stamps_6.2.2.1 rfl (lv_at3 hl) ?_
                  refine lv_iload_n hx hb gX11_stamps_6.2.2.2.1 rfl (lv_at4 hl) ?_
                  refine lv_iconst (v := 2) hx hb gX11_stamps_6.2.2.2.2.1 (by decide) ?_
                  refine lv_iload hx hb gX11_stamps_6.2.2.2.2.2.1 (lv_at0 hl) ?_
                  refine lv_imul hx hb gX11_stamps_6.2.2.2.2.2.2.1 ?_
                  refine eqi (x1 := nI (2 * kA)) (nI_mul 2 kA) ?_
                  refine lv_iadd hx hb gX11_stamps_6.2.2.2.2.2.2.2.1 ?_
                  refine eqi (x1 := nI (ji + 2 * kA)) (nI_add ji (2 * kA)) ?_
                  refine lv_iconst (v := 1) hx hb gX11_stamps_6.2.2.2.2.2.2.2.2.1 (by decide) ?_
                  refine lv_iadd hx hb gX11_stamps_6.2.2.2.2.2.2.2.2.2 ?_
                  refine eqi (x1 := nI (ji + 2 * kA + 1)) (nI_add (ji + 2 * kA) 1) ?_
                  refine pV hC hK hl hP hD (c_atX l G ho9 jt (ji + 2 * kA + 1) hs hz hi hw hn ht fhi (by omega) (by omega)) si_X11_173 [5, 8] sm_5_8 fm_5_8 nd_5_8 rfl rfl rfl rfl rfl (Nat.le_of_ble_eq_true rfl) rm_5_3_3 ⟨by first | exact Nat.le_of_ble_eq_true rfl | exact Nat.zero_le _, by first | exact Nat.le_of_ble_eq_true rfl | exact Nat.zero_le _⟩ gX11_stamps_7.1 (Keqr ?_)
                  refine pS hC hK hl (c_isStamp l G (fhi (jt * 40 + (ji + 2 * kA))) (fhi (jt * 40 + (ji + 2 * kA + 1)))) si_X11_154 rfl rfl (Nat.le_of_ble_eq_true rfl) rm_5_2_2 ⟨by first | exact Nat.le_of_ble_eq_true rfl | exact Nat.zero_le _, by first | exact Nat.le_of_ble_eq_true rfl | exact Nat.zero_le _⟩ gX11_stamps_7.2.1 (Kors (Keqa fun a2633 => ?_) (Keqa fun a2633 => ?_))
                  · refine lv_if_ne (tgt := 138) hx hb gX11_stamps_7.2.2.1 (by decide) (fun _ => ?_) (fun c9 => absurd c9 (by decide))
                    refine lv_iinc (v := nI (kA + 1)) (lv' := [(6, .int (nI (kA + 1))), (0, .ref h0), (1, .int x1), (2, .int (nI jt)), (3, .int (nI ji)), (4, .int (nI jn))]) hx hb gX11_stamps_7.2.2.2.2.2.1 hl (k := 0) rfl (nI_1 _) (by decide) rfl (fun ls hl => ?_)
                    refine lv_goto (tgt := 92) hx hb gX11_stamps_7.2.2.2.2.2.2.1 (by decide) ?_
                    have hst9 : ALS fhi (jt * 40) ji (kA + 1) := ALS.next hals a2633
                    exact ihA (kA + 1) _ _ _ (by omega) (by first | assumption | exact Or.inl rfl | exact Or.inr rfl | exact ALS.zero) (And.intro hP hD) hS (lv_sub hl [0, 1, 2, 3, 4, 5] rfl)
                  · refine lv_if_ne (tgt := 138) hx hb gX11_stamps_7.2.2.1 (by decide) (fun c9 => absurd (by decide) c9) (fun _ => ?_)
                    refine lv_bipush (v := (-4)) hx hb gX11_stamps_7.2.2.2.1 (by decide) ?_
                    have hA9 : STA x1 (nI jt) (nI ji) (nI jn) kbpapers kbstamps fhs fhz fhi = (-4) := by unfold STA; first | (simp only [nI_clamp (n := jt) (by omega), nI_clamp (n := ji) (by omega), nI_clamp (n := jn) (by omega), ifc_t hkbpapers, ifc_t hkbstamps, ifc_t hZ, ifc_t hO, ifc_t a2600, ifc_t a2602, ifc_t a2604, ifc_t a2606, ifc_t a2610, ifc_t c_83_2613, ifc_f a2633, ifc_f (q := fhs jt < 0) (wi_nn (hO jt (by omega)) a2606.1), ifc_t (q := fhs jt = 1) a2606.2, ifc_f (q := OUTS (nI ji) (fhz jt) (nI jn)) (by rw [ejz, OUTS.iff (by omega) (by omega) (by omega)]; omega), ifc_f (q := ALS fhi (jt * 40) ji jn) (fun h9 => a2633 (h9 kA (by omega)))]; done) | (simp only [nI_clamp (n := jt) (by omega), nI_clamp (n := ji) (by omega), nI_clamp (n := jn) (by omega), ifc_t hkbpapers, ifc_t hkbstamps, ifc_t hZ, ifc_t hO, ifc_t a2600, ifc_t a2602, ifc_t a2604, ifc_t a2606, ifc_t a2610, ifc_t c_83_2613, ifc_f a2633, ifc_f (q := fhs jt < 0) (wi_nn (hO jt (by omega)) a2606.1), ifc_t (q := fhs jt = 1) a2606.2, ifc_f (q := OUTS (nI ji) (fhz jt) (nI jn)) (by rw [ejz, OUTS.iff (by omega) (by omega) (by omega)]; omega), ifc_f (q := ALS fhi (jt * 40) ji jn) (fun h9 => a2633 (h9 kA (by omega)))]; rfl)
                    refine toQ hQ0 ?_
                    exact RI (v := (-4)) hC hP hD hS [0, 1, 2, 3, 4, 5, 6, 7, 8] (kbstamps, fbstamps) rfl rfl (by decide) (⟨hA9.symm, ⟨by omega, (by unfold STK; rw [hA9]; exact (ifc_t (by decide)).symm), fun i => (by rw [hA9]; exact (ifc_t (by decide)).symm)⟩⟩) rfl gX11_stamps_7.2.2.2.2.1
              exact keyA jn 0 _ _ _ (by omega) (by first | assumption | exact Or.inl rfl | exact Or.inr rfl | exact ALS.zero) (And.intro hP hD) hS (lv_sub hl [0, 2, 3, 4, 5, 6] rfl)
            · refine lv_bipush (v := (-12)) hx hb gX11_stamps_4.2.2.2.2.1 (by decide) ?_
              have hA9 : STA x1 (nI jt) (nI ji) (nI jn) kbpapers kbstamps fhs fhz fhi = (-12) := by unfold STA; first | (simp only [nI_clamp (n := jt) (by omega), nI_clamp (n := ji) (by omega), nI_clamp (n := jn) (by omega), ifc_t hkbpapers, ifc_t hkbstamps, ifc_t hZ, ifc_t hO, ifc_t a2600, ifc_t a2602, ifc_t a2604, ifc_t a2606, ifc_t a2610, ifc_f c_83_2613, ifc_f (q := fhs jt < 0) (wi_nn (hO jt (by omega)) a2606.1), ifc_t (q := fhs jt = 1) a2606.2, ifc_t (q := OUTS (nI ji) (fhz jt) (nI jn)) (by rw [ejz, OUTS.iff (by omega) (by omega) (by omega)]; have h9 : ¬ 2 * jn ≤ jz - ji := fun h8 => c_83_2613 ((nI_leI (by omega) (by omega)).mpr h8); omega)]; done) | (simp only [nI_clamp (n := jt) (by omega), nI_clamp (n := ji) (by omega), nI_clamp (n := jn) (by omega), ifc_t hkbpapers, ifc_t hkbstamps, ifc_t hZ, ifc_t hO, ifc_t a2600, ifc_t a2602, ifc_t a2604, ifc_t a2606, ifc_t a2610, ifc_f c_83_2613, ifc_f (q := fhs jt < 0) (wi_nn (hO jt (by omega)) a2606.1), ifc_t (q := fhs jt = 1) a2606.2, ifc_t (q := OUTS (nI ji) (fhz jt) (nI jn)) (by rw [ejz, OUTS.iff (by omega) (by omega) (by omega)]; have h9 : ¬ 2 * jn ≤ jz - ji := fun h8 => c_83_2613 ((nI_leI (by omega) (by omega)).mpr h8); omega)]; rfl)
              refine toQ hQ0 ?_
              exact RI (v := (-12)) hC hP hD hS [0, 1, 2, 3, 4, 5, 6, 7, 8] (kbstamps, fbstamps) rfl rfl (by decide) (⟨hA9.symm, ⟨by omega, (by unfold STK; rw [hA9]; exact (ifc_t (by decide)).symm), fun i => (by rw [hA9]; exact (ifc_t (by decide)).symm)⟩⟩) rfl gX11_stamps_4.2.2.2.2.2.1
          · refine lv_if_eq (tgt := 86) hx hb gX11_stamps_3.2.2.2.1 (by decide) (fun _ => ?_) (fun c9 => absurd (by decide) c9)
            refine lv_bipush (v := (-12)) hx hb gX11_stamps_4.2.2.2.2.1 (by decide) ?_
            have hA9 : STA x1 (nI jt) x3 (nI jn) kbpapers kbstamps fhs fhz fhi = (-12) := by unfold STA; first | (simp only [nI_clamp (n := jt) (by omega), nI_clamp (n := jn) (by omega), ifc_t hkbpapers, ifc_t hkbstamps, ifc_t hZ, ifc_t hO, ifc_t a2600, ifc_t a2602, ifc_t a2604, ifc_t a2606, ifc_f a2610, ifc_f (q := fhs jt < 0) (wi_nn (hO jt (by omega)) a2606.1), ifc_t (q := fhs jt = 1) a2606.2, ifc_t (q := OUTS x3 (fhz jt) (nI jn)) (OUTS.w (by omega) a2610)]; done) | (simp only [nI_clamp (n := jt) (by omega), nI_clamp (n := jn) (by omega), ifc_t hkbpapers, ifc_t hkbstamps, ifc_t hZ, ifc_t hO, ifc_t a2600, ifc_t a2602, ifc_t a2604, ifc_t a2606, ifc_f a2610, ifc_f (q := fhs jt < 0) (wi_nn (hO jt (by omega)) a2606.1), ifc_t (q := fhs jt = 1) a2606.2, ifc_t (q := OUTS x3 (fhz jt) (nI jn)) (OUTS.w (by omega) a2610)]; rfl)
            refine toQ hQ0 ?_
            exact RI (v := (-12)) hC hP hD hS [0, 1, 2, 3, 4, 5, 6, 7, 8] (kbstamps, fbstamps) rfl rfl (by decide) (⟨hA9.symm, ⟨by omega, (by unfold STK; rw [hA9]; exact (ifc_t (by decide)).symm), fun i => (by rw [hA9]; exact (ifc_t (by decide)).symm)⟩⟩) rfl gX11_stamps_4.2.2.2.2.2.1
        · refine lv_istore (lv' := [(5, .int (-13)), (0, .ref h0), (1, .int x1), (2, .int (nI jt)), (3, .int x3), (4, .int (nI jn))]) hx hb gX11_stamps_2.2.1 hl (by decide) rfl (fun ls hl => ?_)
          refine lv_iload hx hb gX11_stamps_2.2.2.1 (lv_at0 hl) ?_
          refine lv_if_eq (tgt := 53) hx hb gX11_stamps_2.2.2.2.1 (by decide) (fun c9 => absurd c9 (by decide)) (fun _ => ?_)
          refine lv_iload hx hb gX11_stamps_2.2.2.2.2.1 (lv_at0 hl) ?_
          have hA9 : STA x1 (nI jt) x3 (nI jn) kbpapers kbstamps fhs fhz fhi = (-13) := by unfold STA; first | (simp only [nI_clamp (n := jt) (by omega), nI_clamp (n := jn) (by omega), ifc_t hkbpapers, ifc_t hkbstamps, ifc_t hZ, ifc_t hO, ifc_t a2600, ifc_t a2602, ifc_t a2604, ifc_t a2606, ifc_f (q := fhs jt < 0) (wi_nn (hO jt (by omega)) a2606.1), ifc_f (q := fhs jt = 1) a2606.2]; done) | (simp only [nI_clamp (n := jt) (by omega), nI_clamp (n := jn) (by omega), ifc_t hkbpapers, ifc_t hkbstamps, ifc_t hZ, ifc_t hO, ifc_t a2600, ifc_t a2602, ifc_t a2604, ifc_t a2606, ifc_f (q := fhs jt < 0) (wi_nn (hO jt (by omega)) a2606.1), ifc_f (q := fhs jt = 1) a2606.2]; rfl)
          refine toQ hQ0 ?_
          exact RI (v := (-13)) hC hP hD hS [0, 1, 2, 3, 4, 5, 6, 7, 8] (kbstamps, fbstamps) rfl rfl (by decide) (⟨hA9.symm, ⟨by omega, (by unfold STK; rw [hA9]; exact (ifc_t (by decide)).symm), fun i => (by rw [hA9]; exact (ifc_t (by decide)).symm)⟩⟩) rfl gX11_stamps_2.2.2.2.2.2.1
      · refine lv_if_ne (tgt := 34) hx hb gX11_stamps_1.2.2.2.1 (by decide) (fun c9 => absurd (by decide) c9) (fun _ => ?_)
        refine lv_iconst (v := (-1)) hx hb gX11_stamps_1.2.2.2.2.1 (by decide) ?_
        have hA9 : STA x1 x2 x3 x4 kbpapers kbstamps fhs fhz fhi = (-1) := by unfold STA; first | (simp only [ifc_t hkbpapers, ifc_t hkbstamps, ifc_t hZ, ifc_t hO, ifc_t a2600, ifc_t a2602, ifc_f a2604]; done) | (simp only [ifc_t hkbpapers, ifc_t hkbstamps, ifc_t hZ, ifc_t hO, ifc_t a2600, ifc_t a2602, ifc_f a2604]; rfl)
        refine toQ hQ0 ?_
        exact RI (v := (-1)) hC hP hD hS [0, 1, 2, 3, 4, 5, 6, 7, 8] (kbstamps, fbstamps) rfl rfl (by decide) (⟨hA9.symm, ⟨by omega, (by unfold STK; rw [hA9]; exact (ifc_t (by decide)).symm), fun i => (by rw [hA9]; exact (ifc_t (by decide)).symm)⟩⟩) rfl gX11_stamps_1.2.2.2.2.2.1
    · refine lv_if_eq (tgt := 32) hx hb gX11_stamps_0.2.2.2.2.2.2.2.2.1 (by decide) (fun _ => ?_) (fun c9 => absurd (by decide) c9)
      refine lv_iconst (v := (-1)) hx hb gX11_stamps_1.2.2.2.2.1 (by decide) ?_
      have hA9 : STA x1 x2 x3 x4 kbpapers kbstamps fhs fhz fhi = (-1) := by unfold STA; first | (simp only [ifc_t hkbpapers, ifc_t hkbstamps, ifc_t hZ, ifc_t hO, ifc_t a2600, ifc_f a2602]; done) | (simp only [ifc_t hkbpapers, ifc_t hkbstamps, ifc_t hZ, ifc_t hO, ifc_t a2600, ifc_f a2602]; rfl)
      refine toQ hQ0 ?_
      exact RI (v := (-1)) hC hP hD hS [0, 1, 2, 3, 4, 5, 6, 7, 8] (kbstamps, fbstamps) rfl rfl (by decide) (⟨hA9.symm, ⟨by omega, (by unfold STK; rw [hA9]; exact (ifc_t (by decide)).symm), fun i => (by rw [hA9]; exact (ifc_t (by decide)).symm)⟩⟩) rfl gX11_stamps_1.2.2.2.2.2.1
  · refine lv_if_eq (tgt := 32) hx hb gX11_stamps_0.2.2.2.2.2.1 (by decide) (fun _ => ?_) (fun c9 => absurd (by decide) c9)
    refine lv_iconst (v := (-1)) hx hb gX11_stamps_1.2.2.2.2.1 (by decide) ?_
    have hA9 : STA x1 x2 x3 x4 kbpapers kbstamps fhs fhz fhi = (-1) := by unfold STA; first | (simp only [ifc_t hkbpapers, ifc_t hkbstamps, ifc_t hZ, ifc_t hO, ifc_f a2600]; done) | (simp only [ifc_t hkbpapers, ifc_t hkbstamps, ifc_t hZ, ifc_t hO, ifc_f a2600]; rfl)
    refine toQ hQ0 ?_
    exact RI (v := (-1)) hC hP hD hS [0, 1, 2, 3, 4, 5, 6, 7, 8] (kbstamps, fbstamps) rfl rfl (by decide) (⟨hA9.symm, ⟨by omega, (by unfold STK; rw [hA9]; exact (ifc_t (by decide)).symm), fun i => (by rw [hA9]; exact (ifc_t (by decide)).symm)⟩⟩) rfl gX11_stamps_1.2.2.2.2.2.1
def K_c_holdX (l : Launch) (G : GG) (h0 : Nat) (js : Nat) (hs : Nat) (hz : Nat) (hi : Nat) (hw : Nat) (hn : Nat) (ht : Nat) (fhw : Nat → Int32) (fhn : Nat → Int32) (wh : Int32) (nn : Int32) : Prop := MV l G yX4_hold cX4_hold 4 3 0 0 [.ref h0, .int (nI js), .int wh, .int nn] [(h0, oX4 hs hz hi hw hn ht), (hw, iA G 4 fhw), (hn, iA G 4 fhn)] (fun u : Unit => True) (fun u : Unit => [(h0, oX4 hs hz hi hw hn ht), (hw, iA G 4 (upd fhw js wh)), (hn, iA G 4 (upd fhn js nn))])
set_option maxHeartbeats 4000000 in
set_option maxRecDepth 100000 in
theorem c_holdX (l : Launch) (G : GG) (h0 : Nat) (js : Nat) (hs : Nat) (hz : Nat) (hi : Nat) (hw : Nat) (hn : Nat) (ht : Nat) (fhw : Nat → Int32) (fhn : Nat → Int32) (wh : Int32) (nn : Int32) (hjs : js < 4) : K_c_holdX l G h0 js hs hz hi hw hn ht fhw fhn wh nn := by
  refine MV.start (by decide +kernel) (Nat.le_of_ble_eq_true rfl) ?_
  intro p e s m below meth c A ls hC hK hP hD hS hA hl
  refine absQ (fun Q0 hQ0 => ?_)
  have hl : lv_has ls 4 [(0, .ref h0), (1, .int (nI js)), (2, .int wh), (3, .int nn)] := hl
  refine Kan8 hC (fun hx hb hr hml hB hown hlocks hnm => ?_)
  have wj1 : Wi (nI js) 0 3 := Wi_j (N := 3) rfl (by decide) (by omega)
  refine lv_iload_n hx hb gX4_hold_0.1 rfl (lv_at1 hl) ?_
  refine pSN hC hK hl (c_isShelf l G (nI js)) si_X4_41 rfl rfl (Nat.le_of_ble_eq_true rfl) rm_3_2_1 ⟨by first | exact Nat.le_of_ble_eq_true rfl | exact Nat.zero_le _, by first | exact Nat.le_of_ble_eq_true rfl | exact Nat.zero_le _⟩ gX4_hold_0.2.1 (Kors (Keqa fun a2635 => ?_) (Keqa fun a2635 => ?_))
  · refine lv_if_ne (tgt := 8) hx hb gX4_hold_0.2.2.1 (by decide) (fun _ => ?_) (fun c9 => absurd c9 (by decide))
    refine lv_aload_n hx hb gX4_hold_0.2.2.2.2.1 rfl (lv_at0 hl) ?_
    refine gf_X4_21 hC rfl hK hP 0 rfl rfl gX4_hold_0.2.2.2.2.2.1 ?_
    refine lv_iload_n hx hb gX4_hold_0.2.2.2.2.2.2.1 rfl (lv_at1 hl) ?_
    refine lv_iload_n hx hb gX4_hold_0.2.2.2.2.2.2.2.1 rfl (lv_at2 hl) ?_
    refine astN hC hK hP hD hS 1 (ws' := [(h0, oX4 hs hz hi hw hn ht), (hw, iA G 4 (upd fhw js wh)), (hn, iA G 4 fhn)]) rfl (k := js) (by omega) (Nat.le_of_ble_eq_true rfl) (rfl) gX4_hold_0.2.2.2.2.2.2.2.2.1 (fun H locs hP hD hS => ?_)
    refine lv_aload_n hx hb gX4_hold_0.2.2.2.2.2.2.2.2.2 rfl (lv_at0 hl) ?_
    refine gf_X4_24 hC rfl hK hP 0 rfl rfl gX4_hold_1.1 ?_
    refine lv_iload_n hx hb gX4_hold_1.2.1 rfl (lv_at1 hl) ?_
    refine lv_iload_n hx hb gX4_hold_1.2.2.1 rfl (lv_at3 hl) ?_
    refine astN hC hK hP hD hS 2 (ws' := [(h0, oX4 hs hz hi hw hn ht), (hw, iA G 4 (upd fhw js wh)), (hn, iA G 4 (upd fhn js nn))]) rfl (k := js) (by omega) (Nat.le_of_ble_eq_true rfl) (rfl) gX4_hold_1.2.2.2.1 (fun H locs hP hD hS => ?_)
    refine toQ hQ0 ?_
    exact RV hC hP hD hS [0, 1, 2] () rfl rfl (by decide) (trivial) gX4_hold_1.2.2.2.2
  · exact absurd wj1 a2635
def K_c_holdRowX (l : Launch) (G : GG) (h0 : Nat) (js : Nat) (ju : Nat) (hs : Nat) (hz : Nat) (hi : Nat) (hw : Nat) (hn : Nat) (ht : Nat) (fhw : Nat → Int32) (fhn : Nat → Int32) (fht : Nat → Int32) (fhs : Nat → Int32) (fhz : Nat → Int32) : Prop := MV l G yX4_holdRow cX4_holdRow 3 4 0 0 [.ref h0, .int (nI js), .int (nI ju)] [(h0, oX4 hs hz hi hw hn ht), (hw, iA G 4 fhw), (hn, iA G 4 fhn), (ht, iA G 4 fht), (hs, iA G 4 fhs), (hz, iA G 4 fhz)] (fun u : (Nat → Int32) => u = upd fhw js (ifc (fhs ju = (-1)) 4 3)) (fun u : (Nat → Int32) => [(h0, oX4 hs hz hi hw hn ht), (hw, iA G 4 u), (hn, iA G 4 (upd fhn js (fhz ju))), (ht, iA G 4 (upd fht js (fhs ju))), (hs, iA G 4 fhs), (hz, iA G 4 fhz)])
set_option maxHeartbeats 4000000 in
set_option maxRecDepth 100000 in
theorem c_holdRowX (l : Launch) (G : GG) (h0 : Nat) (js : Nat) (ju : Nat) (hs : Nat) (hz : Nat) (hi : Nat) (hw : Nat) (hn : Nat) (ht : Nat) (fhw : Nat → Int32) (fhn : Nat → Int32) (fht : Nat → Int32) (fhs : Nat → Int32) (fhz : Nat → Int32) (hjs : js < 4) (hju : ju < 4) : K_c_holdRowX l G h0 js ju hs hz hi hw hn ht fhw fhn fht fhs fhz := by
  refine MV.start (by decide +kernel) (Nat.le_of_ble_eq_true rfl) ?_
  intro p e s m below meth c A ls hC hK hP hD hS hA hl
  refine absQ (fun Q0 hQ0 => ?_)
  have hl : lv_has ls 3 [(0, .ref h0), (1, .int (nI js)), (2, .int (nI ju))] := hl
  refine Kan8 hC (fun hx hb hr hml hB hown hlocks hnm => ?_)
  have wj1 : Wi (nI js) 0 3 := Wi_j (N := 3) rfl (by decide) (by omega)
  refine lv_iload_n hx hb gX4_holdRow_0.1 rfl (lv_at1 hl) ?_
  refine pSN hC hK hl (c_isShelf l G (nI js)) si_X4_41 rfl rfl (Nat.le_of_ble_eq_true rfl) rm_4_2_1 ⟨by first | exact Nat.le_of_ble_eq_true rfl | exact Nat.zero_le _, by first | exact Nat.le_of_ble_eq_true rfl | exact Nat.zero_le _⟩ gX4_holdRow_0.2.1 (Kors (Keqa fun a2637 => ?_) (Keqa fun a2637 => ?_))
  · refine lv_if_ne (tgt := 8) hx hb gX4_holdRow_0.2.2.1 (by decide) (fun _ => ?_) (fun c9 => absurd c9 (by decide))
    refine lv_aload_n hx hb gX4_holdRow_0.2.2.2.2.1 rfl (lv_at0 hl) ?_
    refine gf_X4_21 hC rfl hK hP 0 rfl rfl gX4_holdRow_0.2.2.2.2.2.1 ?_
    refine lv_iload_n hx hb gX4_holdRow_0.2.2.2.2.2.2.1 rfl (lv_at1 hl) ?_
    refine lv_aload_n hx hb gX4_holdRow_0.2.2.2.2.2.2.2.1 rfl (lv_at0 hl) ?_
    refine lv_iload_n hx hb gX4_holdRow_0.2.2.2.2.2.2.2.2.1 rfl (lv_at2 hl) ?_
    refine pV hC hK hl hP hD (c_sortX l G h0 ju hs hz hi hw hn ht fhs (hju)) si_X4_38 [0, 4] sm_0_4 fm_0_4 nd_0_4 rfl rfl rfl rfl rfl (Nat.le_of_ble_eq_true rfl) rm_4_3_2 ⟨by first | exact Nat.le_of_ble_eq_true rfl | exact Nat.zero_le _, by first | exact Nat.le_of_ble_eq_true rfl | exact Nat.zero_le _⟩ gX4_holdRow_0.2.2.2.2.2.2.2.2.2 (Keqr ?_)
    refine lv_iconst (v := (-1)) hx hb gX4_holdRow_1.1 (by decide) ?_
    refine lv_icmp_ne (tgt := 26) hx hb gX4_holdRow_1.2.1 (by decide) (fun c_19_2640 => ?_) (fun c_19_2640 => ?_)
    · refine lv_iconst (v := 3) hx hb gX4_holdRow_1.2.2.2.2.1 (by decide) ?_
      refine astN hC hK hP hD hS 1 (ws' := [(h0, oX4 hs hz hi hw hn ht), (hw, iA G 4 (upd fhw js 3)), (hn, iA G 4 fhn), (ht, iA G 4 fht), (hs, iA G 4 fhs), (hz, iA G 4 fhz)]) rfl (k := js) (by omega) (Nat.le_of_ble_eq_true rfl) (rfl) gX4_holdRow_1.2.2.2.2.2.1 (fun H locs hP hD hS => ?_)
      refine lv_aload_n hx hb gX4_holdRow_1.2.2.2.2.2.2.1 rfl (lv_at0 hl) ?_
      refine gf_X4_24 hC rfl hK hP 0 rfl rfl gX4_holdRow_1.2.2.2.2.2.2.2.1 ?_
      refine lv_iload_n hx hb gX4_holdRow_1.2.2.2.2.2.2.2.2.1 rfl (lv_at1 hl) ?_
      refine lv_aload_n hx hb gX4_holdRow_1.2.2.2.2.2.2.2.2.2 rfl (lv_at0 hl) ?_
      refine lv_iload_n hx hb gX4_holdRow_2.1 rfl (lv_at2 hl) ?_
      refine pV hC hK hl hP hD (c_sizeX l G h0 ju hs hz hi hw hn ht fhz (hju)) si_X4_44 [0, 5] sm_0_5 fm_0_5 nd_0_5 rfl rfl rfl rfl rfl (Nat.le_of_ble_eq_true rfl) rm_4_3_2 ⟨by first | exact Nat.le_of_ble_eq_true rfl | exact Nat.zero_le _, by first | exact Nat.le_of_ble_eq_true rfl | exact Nat.zero_le _⟩ gX4_holdRow_2.2.1 (Keqr ?_)
      refine astN hC hK hP hD hS 2 (ws' := [(h0, oX4 hs hz hi hw hn ht), (hw, iA G 4 (upd fhw js 3)), (hn, iA G 4 (upd fhn js (fhz ju))), (ht, iA G 4 fht), (hs, iA G 4 fhs), (hz, iA G 4 fhz)]) rfl (k := js) (by omega) (Nat.le_of_ble_eq_true rfl) (rfl) gX4_holdRow_2.2.2.1 (fun H locs hP hD hS => ?_)
      refine lv_aload_n hx hb gX4_holdRow_2.2.2.2.1 rfl (lv_at0 hl) ?_
      refine gf_X4_27 hC rfl hK hP 0 rfl rfl gX4_holdRow_2.2.2.2.2.1 ?_
      refine lv_iload_n hx hb gX4_holdRow_2.2.2.2.2.2.1 rfl (lv_at1 hl) ?_
      refine lv_aload_n hx hb gX4_holdRow_2.2.2.2.2.2.2.1 rfl (lv_at0 hl) ?_
      refine lv_iload_n hx hb gX4_holdRow_2.2.2.2.2.2.2.2.1 rfl (lv_at2 hl) ?_
      refine pV hC hK hl hP hD (c_sortX l G h0 ju hs hz hi hw hn ht fhs (hju)) si_X4_38 [0, 4] sm_0_4 fm_0_4 nd_0_4 rfl rfl rfl rfl rfl (Nat.le_of_ble_eq_true rfl) rm_4_3_2 ⟨by first | exact Nat.le_of_ble_eq_true rfl | exact Nat.zero_le _, by first | exact Nat.le_of_ble_eq_true rfl | exact Nat.zero_le _⟩ gX4_holdRow_2.2.2.2.2.2.2.2.2.1 (Keqr ?_)
      refine astN hC hK hP hD hS 3 (ws' := [(h0, oX4 hs hz hi hw hn ht), (hw, iA G 4 (upd fhw js 3)), (hn, iA G 4 (upd fhn js (fhz ju))), (ht, iA G 4 (upd fht js (fhs ju))), (hs, iA G 4 fhs), (hz, iA G 4 fhz)]) rfl (k := js) (by omega) (Nat.le_of_ble_eq_true rfl) (rfl) gX4_holdRow_2.2.2.2.2.2.2.2.2.2 (fun H locs hP hD hS => ?_)
      refine toQ hQ0 ?_
      exact RV hC hP hD hS [0, 1, 2, 3, 4, 5] (upd fhw js 3) rfl rfl (by decide) (congrArg (upd fhw js) (ifc_f c_19_2640).symm) gX4_holdRow_3
    · refine lv_iconst (v := 4) hx hb gX4_holdRow_1.2.2.1 (by decide) ?_
      refine lv_goto (tgt := 27) hx hb gX4_holdRow_1.2.2.2.1 (by decide) ?_
      refine astN hC hK hP hD hS 1 (ws' := [(h0, oX4 hs hz hi hw hn ht), (hw, iA G 4 (upd fhw js 4)), (hn, iA G 4 fhn), (ht, iA G 4 fht), (hs, iA G 4 fhs), (hz, iA G 4 fhz)]) rfl (k := js) (by omega) (Nat.le_of_ble_eq_true rfl) (rfl) gX4_holdRow_1.2.2.2.2.2.1 (fun H locs hP hD hS => ?_)
      refine lv_aload_n hx hb gX4_holdRow_1.2.2.2.2.2.2.1 rfl (lv_at0 hl) ?_
      refine gf_X4_24 hC rfl hK hP 0 rfl rfl gX4_holdRow_1.2.2.2.2.2.2.2.1 ?_
      refine lv_iload_n hx hb gX4_holdRow_1.2.2.2.2.2.2.2.2.1 rfl (lv_at1 hl) ?_
      refine lv_aload_n hx hb gX4_holdRow_1.2.2.2.2.2.2.2.2.2 rfl (lv_at0 hl) ?_
      refine lv_iload_n hx hb gX4_holdRow_2.1 rfl (lv_at2 hl) ?_
      refine pV hC hK hl hP hD (c_sizeX l G h0 ju hs hz hi hw hn ht fhz (hju)) si_X4_44 [0, 5] sm_0_5 fm_0_5 nd_0_5 rfl rfl rfl rfl rfl (Nat.le_of_ble_eq_true rfl) rm_4_3_2 ⟨by first | exact Nat.le_of_ble_eq_true rfl | exact Nat.zero_le _, by first | exact Nat.le_of_ble_eq_true rfl | exact Nat.zero_le _⟩ gX4_holdRow_2.2.1 (Keqr ?_)
      refine astN hC hK hP hD hS 2 (ws' := [(h0, oX4 hs hz hi hw hn ht), (hw, iA G 4 (upd fhw js 4)), (hn, iA G 4 (upd fhn js (fhz ju))), (ht, iA G 4 fht), (hs, iA G 4 fhs), (hz, iA G 4 fhz)]) rfl (k := js) (by omega) (Nat.le_of_ble_eq_true rfl) (rfl) gX4_holdRow_2.2.2.1 (fun H locs hP hD hS => ?_)
      refine lv_aload_n hx hb gX4_holdRow_2.2.2.2.1 rfl (lv_at0 hl) ?_
      refine gf_X4_27 hC rfl hK hP 0 rfl rfl gX4_holdRow_2.2.2.2.2.1 ?_
      refine lv_iload_n hx hb gX4_holdRow_2.2.2.2.2.2.1 rfl (lv_at1 hl) ?_
      refine lv_aload_n hx hb gX4_holdRow_2.2.2.2.2.2.2.1 rfl (lv_at0 hl) ?_
      refine lv_iload_n hx hb gX4_holdRow_2.2.2.2.2.2.2.2.1 rfl (lv_at2 hl) ?_
      refine pV hC hK hl hP hD (c_sortX l G h0 ju hs hz hi hw hn ht fhs (hju)) si_X4_38 [0, 4] sm_0_4 fm_0_4 nd_0_4 rfl rfl rfl rfl rfl (Nat.le_of_ble_eq_true rfl) rm_4_3_2 ⟨by first | exact Nat.le_of_ble_eq_true rfl | exact Nat.zero_le _, by first | exact Nat.le_of_ble_eq_true rfl | exact Nat.zero_le _⟩ gX4_holdRow_2.2.2.2.2.2.2.2.2.1 (Keqr ?_)
      refine astN hC hK hP hD hS 3 (ws' := [(h0, oX4 hs hz hi hw hn ht), (hw, iA G 4 (upd fhw js 4)), (hn, iA G 4 (upd fhn js (fhz ju))), (ht, iA G 4 (upd fht js (fhs ju))), (hs, iA G 4 fhs), (hz, iA G 4 fhz)]) rfl (k := js) (by omega) (Nat.le_of_ble_eq_true rfl) (rfl) gX4_holdRow_2.2.2.2.2.2.2.2.2.2 (fun H locs hP hD hS => ?_)
      refine toQ hQ0 ?_
      exact RV hC hP hD hS [0, 1, 2, 3, 4, 5] (upd fhw js 4) rfl rfl (by decide) (congrArg (upd fhw js) (ifc_t c_19_2640).symm) gX4_holdRow_3
  · exact absurd wj1 a2637
def K_p_shelf (l : Launch) (G : GG) (h0 : Nat) (x1 : Int32) (x2 : Int32) (x3 : Int32) (bb : Nat) (kk : Nat) (ikp : Int32) (sg : Nat) (do9 : Nat) (ru9 : Nat) (ta9 : Nat) (tp9 : Nat) (ro9 : Nat) (ho9 : Nat) (de9 : Nat) (bpersons : Nat) (bpapers : Nat) (bstamps : Nat) (bversions : Nat) (blines : Nat) (bsteps : Nat) (bsayings : Nat) (bfindings : Nat) (bwarnings : Nat) (bquestions : Nat) (td : Int32) (vd : Int32) (vl : Int32) (gp : Int32) (bpapersc : Nat) (kbpapers : Nat) (bsayingsc : Nat) (kbsayings : Nat) (bfindingsc : Nat) (kbfindings : Nat) (hs : Nat) (hz : Nat) (hi : Nat) (hw : Nat) (hn : Nat) (ht : Nat) (fhw : Nat → Int32) (fhn : Nat → Int32) (fht : Nat → Int32) (fhs : Nat → Int32) (fhz : Nat → Int32) : Prop := MI l G yX11_shelf cX11_shelf 4 (some .int) 5 0 0 [.ref h0, .int x1, .int x2, .int x3] [(h0, oX11 bb kk ikp sg do9 ru9 ta9 tp9 ro9 ho9 de9), (bb, oX0 bpersons bpapers bstamps bversions blines bsteps bsayings bfindings bwarnings bquestions td vd vl gp), (bpapers, oX8 12 6 bpapersc (nI kbpapers)), (bsayings, oX8 16 8 bsayingsc (nI kbsayings)), (bfindings, oX8 12 4 bfindingsc (nI kbfindings)), (ho9, oX4 hs hz hi hw hn ht), (hw, iA G 4 fhw), (hn, iA G 4 fhn), (ht, iA G 4 fht), (hs, iA G 4 fhs), (hz, iA G 4 fhz)] (fun (r : Int32) (u : (Nat → Int32) × (Nat → Int32) × (Nat → Int32)) => (r = SHX x1 x2 x3 kbpapers kbsayings kbfindings) ∧ ((SHX x1 x2 x3 kbpapers kbsayings kbfindings = 1 → (x2 = 3 → u.1 = upd fhw x1.toNatClampNeg (ifc (fhs x3.toNatClampNeg = (-1)) 4 3) ∧ u.2.1 = upd fhn x1.toNatClampNeg (fhz x3.toNatClampNeg) ∧ u.2.2 = upd fht x1.toNatClampNeg (fhs x3.toNatClampNeg)) ∧ (¬ x2 = 3 → u.1 = upd fhw x1.toNatClampNeg x2 ∧ u.2.1 = upd fhn x1.toNatClampNeg x3 ∧ u.2.2 = fht)) ∧ (¬ SHX x1 x2 x3 kbpapers kbsayings kbfindings = 1 → u.1 = fhw ∧ u.2.1 = fhn ∧ u.2.2 = fht))) (fun u : (Nat → Int32) × (Nat → Int32) × (Nat → Int32) => [(h0, oX11 bb kk ikp sg do9 ru9 ta9 tp9 ro9 ho9 de9), (bb, oX0 bpersons bpapers bstamps bversions blines bsteps bsayings bfindings bwarnings bquestions td vd vl gp), (bpapers, oX8 12 6 bpapersc (nI kbpapers)), (bsayings, oX8 16 8 bsayingsc (nI kbsayings)), (bfindings, oX8 12 4 bfindingsc (nI kbfindings)), (ho9, oX4 hs hz hi hw hn ht), (hw, iA G 4 u.1), (hn, iA G 4 u.2.1), (ht, iA G 4 u.2.2), (hs, iA G 4 fhs), (hz, iA G 4 fhz)])
set_option maxHeartbeats 4000000 in
set_option maxRecDepth 100000 in
theorem p_shelf (l : Launch) (G : GG) (h0 : Nat) (x1 : Int32) (x2 : Int32) (x3 : Int32) (bb : Nat) (kk : Nat) (ikp : Int32) (sg : Nat) (do9 : Nat) (ru9 : Nat) (ta9 : Nat) (tp9 : Nat) (ro9 : Nat) (ho9 : Nat) (de9 : Nat) (bpersons : Nat) (bpapers : Nat) (bstamps : Nat) (bversions : Nat) (blines : Nat) (bsteps : Nat) (bsayings : Nat) (bfindings : Nat) (bwarnings : Nat) (bquestions : Nat) (td : Int32) (vd : Int32) (vl : Int32) (gp : Int32) (bpapersc : Nat) (kbpapers : Nat) (bsayingsc : Nat) (kbsayings : Nat) (bfindingsc : Nat) (kbfindings : Nat) (hs : Nat) (hz : Nat) (hi : Nat) (hw : Nat) (hn : Nat) (ht : Nat) (fhw : Nat → Int32) (fhn : Nat → Int32) (fht : Nat → Int32) (fhs : Nat → Int32) (fhz : Nat → Int32) : K_p_shelf l G h0 x1 x2 x3 bb kk ikp sg do9 ru9 ta9 tp9 ro9 ho9 de9 bpersons bpapers bstamps bversions blines bsteps bsayings bfindings bwarnings bquestions td vd vl gp bpapersc kbpapers bsayingsc kbsayings bfindingsc kbfindings hs hz hi hw hn ht fhw fhn fht fhs fhz := by
  refine MI.start (by decide +kernel) (Nat.le_of_ble_eq_true rfl) ?_
  intro p e s m below meth c A ls hC hK hP hD hS hA hl
  refine absQ (fun Q0 hQ0 => ?_)
  have hl : lv_has ls 4 [(0, .ref h0), (1, .int x1), (2, .int x2), (3, .int x3)] := hl
  refine Kan8 hC (fun hx hb hr hml hB hown hlocks hnm => ?_)
  refine lv_iload_n hx hb gX11_shelf_0.1 rfl (lv_at1 hl) ?_
  refine pS hC hK hl (c_isShelf l G x1) si_X11_318 rfl rfl (Nat.le_of_ble_eq_true rfl) rm_5_2_1 ⟨by first | exact Nat.le_of_ble_eq_true rfl | exact Nat.zero_le _, by first | exact Nat.le_of_ble_eq_true rfl | exact Nat.zero_le _⟩ gX11_shelf_0.2.1 (Kors (Keqa fun a2650 => ?_) (Keqa fun a2650 => ?_))
  · refine lv_if_ne (tgt := 9) hx hb gX11_shelf_0.2.2.1 (by decide) (fun _ => ?_) (fun c9 => absurd c9 (by decide))
    obtain ⟨js, hjs, rfl⟩ := Wi3 a2650
    refine lv_iload_n hx hb gX11_shelf_0.2.2.2.2.2.1 rfl (lv_at2 hl) ?_
    by_cases c_10_2651 : x2 = 0
    · refine lv_tableIn (tgt := 44) hx hb gX11_shelf_0.2.2.2.2.2.2.1 (by rw [c_10_2651]; decide) (by rw [c_10_2651]; decide) (by rw [c_10_2651]; rfl) (by decide) ?_
      refine lv_aload_n hx hb gX11_shelf_0.2.2.2.2.2.2.2.1 rfl (lv_at0 hl) ?_
      refine gf_X11_15 hC rfl hK hP 0 rfl rfl gX11_shelf_0.2.2.2.2.2.2.2.2.1 ?_
      refine gf_X11_144 hC rfl hK hP 1 rfl rfl gX11_shelf_0.2.2.2.2.2.2.2.2.2 ?_
      refine lv_iload_n hx hb gX11_shelf_1.1 rfl (lv_at3 hl) ?_
      refine pV hC hK hl hP hD (c_T_has l G bpapers x3 12 6 bpapersc kbpapers) si_X11_124 [2] sm_2 fm_2 nd_2 rfl rfl rfl rfl rfl (Nat.le_of_ble_eq_true rfl) rm_5_1_2 ⟨by first | exact Nat.le_of_ble_eq_true rfl | exact Nat.zero_le _, by first | exact Nat.le_of_ble_eq_true rfl | exact Nat.zero_le _⟩ gX11_shelf_1.2.1 (Kors (Keqa fun a2653 => ?_) (Keqa fun a2653 => ?_))
      · refine lv_if_ne (tgt := 106) hx hb gX11_shelf_1.2.2.1 (by decide) (fun _ => ?_) (fun c9 => absurd c9 (by decide))
        refine lv_iload_n hx hb gX11_shelf_3.2.2.2.2.2.2.2.2.2 rfl (lv_at2 hl) ?_
        refine lv_iconst (v := 3) hx hb gX11_shelf_4.1 (by decide) ?_
        refine lv_icmp_ne (tgt := 123) hx hb gX11_shelf_4.2.1 (by decide) (fun _ => ?_) (fun c9 => absurd c9 ((by rw [c_10_2651]; decide)))
        refine lv_aload_n hx hb gX11_shelf_4.2.2.2.2.2.2.2.2.1 rfl (lv_at0 hl) ?_
        refine gf_X11_72 hC rfl hK hP 0 rfl rfl gX11_shelf_4.2.2.2.2.2.2.2.2.2 ?_
        refine lv_iload_n hx hb gX11_shelf_5.1 rfl (lv_at1 hl) ?_
        refine lv_iload_n hx hb gX11_shelf_5.2.1 rfl (lv_at2 hl) ?_
        refine lv_iload_n hx hb gX11_shelf_5.2.2.1 rfl (lv_at3 hl) ?_
        refine vV (wr := [(h0, oX11 bb kk ikp sg do9 ru9 ta9 tp9 ro9 ho9 de9), (bb, oX0 bpersons bpapers bstamps bversions blines bsteps bsayings bfindings bwarnings bquestions td vd vl gp), (bpapers, oX8 12 6 bpapersc (nI kbpapers)), (bsayings, oX8 16 8 bsayingsc (nI kbsayings)), (bfindings, oX8 12 4 bfindingsc (nI kbfindings)), (ht, iA G 4 fht), (hs, iA G 4 fhs), (hz, iA G 4 fhz)]) hC hK hl hP hD hS hA (c_holdX l G ho9 js hs hz hi hw hn ht fhw fhn x2 x3 (by omega)) si_X11_324 [5, 6, 7] [0, 1, 2, 3, 4, 8, 9, 10] sm_5_6_7 fm_5_6_7 nd_5_6_7 sm_0_1_2_3_4_8_9_10 nd_0_1_2_3_4_8_9_10 dj_5_6_7__0_1_2_3_4_8_9_10 rfl rfl rfl rfl rfl (Nat.le_of_ble_eq_true rfl) rm_5_3_4 ⟨Nat.le_of_ble_eq_true rfl, Nat.le_of_ble_eq_true rfl⟩ gX11_shelf_5.2.2.2.1 (fun u2655 H locs hr2654 hP hD hS => ?_)
        refine Kpdr (ws := [(h0, oX11 bb kk ikp sg do9 ru9 ta9 tp9 ro9 ho9 de9), (bb, oX0 bpersons bpapers bstamps bversions blines bsteps bsayings bfindings bwarnings bquestions td vd vl gp), (bpapers, oX8 12 6 bpapersc (nI kbpapers)), (bsayings, oX8 16 8 bsayingsc (nI kbsayings)), (bfindings, oX8 12 4 bfindingsc (nI kbfindings)), (ht, iA G 4 fht), (hs, iA G 4 fhs), (hz, iA G 4 fhz), (ho9, oX4 hs hz hi hw hn ht), (hw, iA G 4 (upd fhw js x2)), (hn, iA G 4 (upd fhn js x3))]) hP hD (fun hP hD => ?_)
        refine lv_iconst (v := 1) hx hb gX11_shelf_5.2.2.2.2.1 (by decide) ?_
        refine toQ hQ0 ?_
        exact RI (v := 1) hC hP hD hS [0, 1, 2, 3, 4, 8, 9, 10, 5, 6, 7] ((upd fhw js x2), (upd fhn js x3), fht) rfl rfl (by decide) (⟨(by unfold SHX; first | rfl | (simp only [ifc_t a2650, ifc_t c_10_2651, ifc_t a2653]; done) | (simp only [ifc_t a2650, ifc_t c_10_2651, ifc_t a2653]; rfl)), ⟨fun _ => ⟨fun h9 => absurd h9 (by rw [c_10_2651]; decide), fun _ => (by rw [nI_clamp (n := js) (by omega)]; exact ⟨rfl, rfl, rfl⟩)⟩, fun h9 => absurd (by unfold SHX; simp only [ifc_t a2650, ifc_t c_10_2651, ifc_t a2653]) h9⟩⟩) rfl gX11_shelf_5.2.2.2.2.2
      · refine lv_if_ne (tgt := 106) hx hb gX11_shelf_1.2.2.1 (by decide) (fun c9 => absurd (by decide) c9) (fun _ => ?_)
        refine lv_iconst (v := (-1)) hx hb gX11_shelf_1.2.2.2.1 (by decide) ?_
        refine toQ hQ0 ?_
        exact RI (v := (-1)) hC hP hD hS [0, 1, 2, 3, 4, 5, 6, 7, 8, 9, 10] (fhw, fhn, fht) rfl rfl (by decide) (⟨(by unfold SHX; first | rfl | (simp only [ifc_t a2650, ifc_t c_10_2651, ifc_f a2653]; done) | (simp only [ifc_t a2650, ifc_t c_10_2651, ifc_f a2653]; rfl)), ⟨fun h9 => absurd ((show SHX (nI js) x2 x3 kbpapers kbsayings kbfindings = (-1) from by unfold SHX; simp only [ifc_t a2650, ifc_t c_10_2651, ifc_f a2653]).symm.trans h9) (by decide), fun _ => ⟨rfl, rfl, rfl⟩⟩⟩) rfl gX11_shelf_1.2.2.2.2.1
    by_cases c_10_2656 : x2 = 1
    · refine lv_tableIn (tgt := 60) hx hb gX11_shelf_0.2.2.2.2.2.2.1 (by rw [c_10_2656]; decide) (by rw [c_10_2656]; decide) (by rw [c_10_2656]; rfl) (by decide) ?_
      refine lv_aload_n hx hb gX11_shelf_1.2.2.2.2.2.1 rfl (lv_at0 hl) ?_
      refine gf_X11_15 hC rfl hK hP 0 rfl rfl gX11_shelf_1.2.2.2.2.2.2.1 ?_
      refine gf_X11_256 hC rfl hK hP 1 rfl rfl gX11_shelf_1.2.2.2.2.2.2.2.1 ?_
      refine lv_iload_n hx hb gX11_shelf_1.2.2.2.2.2.2.2.2.1 rfl (lv_at3 hl) ?_
      refine pV hC hK hl hP hD (c_T_has l G bsayings x3 16 8 bsayingsc kbsayings) si_X11_124 [3] sm_3 fm_3 nd_3 rfl rfl rfl rfl rfl (Nat.le_of_ble_eq_true rfl) rm_5_1_2 ⟨by first | exact Nat.le_of_ble_eq_true rfl | exact Nat.zero_le _, by first | exact Nat.le_of_ble_eq_true rfl | exact Nat.zero_le _⟩ gX11_shelf_1.2.2.2.2.2.2.2.2.2 (Kors (Keqa fun a2658 => ?_) (Keqa fun a2658 => ?_))
      · refine lv_if_ne (tgt := 106) hx hb gX11_shelf_2.1 (by decide) (fun _ => ?_) (fun c9 => absurd c9 (by decide))
        refine lv_iload_n hx hb gX11_shelf_3.2.2.2.2.2.2.2.2.2 rfl (lv_at2 hl) ?_
        refine lv_iconst (v := 3) hx hb gX11_shelf_4.1 (by decide) ?_
        refine lv_icmp_ne (tgt := 123) hx hb gX11_shelf_4.2.1 (by decide) (fun _ => ?_) (fun c9 => absurd c9 ((by rw [c_10_2656]; decide)))
        refine lv_aload_n hx hb gX11_shelf_4.2.2.2.2.2.2.2.2.1 rfl (lv_at0 hl) ?_
        refine gf_X11_72 hC rfl hK hP 0 rfl rfl gX11_shelf_4.2.2.2.2.2.2.2.2.2 ?_
        refine lv_iload_n hx hb gX11_shelf_5.1 rfl (lv_at1 hl) ?_
        refine lv_iload_n hx hb gX11_shelf_5.2.1 rfl (lv_at2 hl) ?_
        refine lv_iload_n hx hb gX11_shelf_5.2.2.1 rfl (lv_at3 hl) ?_
        refine vV (wr := [(h0, oX11 bb kk ikp sg do9 ru9 ta9 tp9 ro9 ho9 de9), (bb, oX0 bpersons bpapers bstamps bversions blines bsteps bsayings bfindings bwarnings bquestions td vd vl gp), (bpapers, oX8 12 6 bpapersc (nI kbpapers)), (bsayings, oX8 16 8 bsayingsc (nI kbsayings)), (bfindings, oX8 12 4 bfindingsc (nI kbfindings)), (ht, iA G 4 fht), (hs, iA G 4 fhs), (hz, iA G 4 fhz)]) hC hK hl hP hD hS hA (c_holdX l G ho9 js hs hz hi hw hn ht fhw fhn x2 x3 (by omega)) si_X11_324 [5, 6, 7] [0, 1, 2, 3, 4, 8, 9, 10] sm_5_6_7 fm_5_6_7 nd_5_6_7 sm_0_1_2_3_4_8_9_10 nd_0_1_2_3_4_8_9_10 dj_5_6_7__0_1_2_3_4_8_9_10 rfl rfl rfl rfl rfl (Nat.le_of_ble_eq_true rfl) rm_5_3_4 ⟨Nat.le_of_ble_eq_true rfl, Nat.le_of_ble_eq_true rfl⟩ gX11_shelf_5.2.2.2.1 (fun u2660 H locs hr2659 hP hD hS => ?_)
        refine Kpdr (ws := [(h0, oX11 bb kk ikp sg do9 ru9 ta9 tp9 ro9 ho9 de9), (bb, oX0 bpersons bpapers bstamps bversions blines bsteps bsayings bfindings bwarnings bquestions td vd vl gp), (bpapers, oX8 12 6 bpapersc (nI kbpapers)), (bsayings, oX8 16 8 bsayingsc (nI kbsayings)), (bfindings, oX8 12 4 bfindingsc (nI kbfindings)), (ht, iA G 4 fht), (hs, iA G 4 fhs), (hz, iA G 4 fhz), (ho9, oX4 hs hz hi hw hn ht), (hw, iA G 4 (upd fhw js x2)), (hn, iA G 4 (upd fhn js x3))]) hP hD (fun hP hD => ?_)
        refine lv_iconst (v := 1) hx hb gX11_shelf_5.2.2.2.2.1 (by decide) ?_
        refine toQ hQ0 ?_
        exact RI (v := 1) hC hP hD hS [0, 1, 2, 3, 4, 8, 9, 10, 5, 6, 7] ((upd fhw js x2), (upd fhn js x3), fht) rfl rfl (by decide) (⟨(by unfold SHX; first | rfl | (simp only [ifc_t a2650, ifc_f c_10_2651, ifc_t c_10_2656, ifc_t a2658]; done) | (simp only [ifc_t a2650, ifc_f c_10_2651, ifc_t c_10_2656, ifc_t a2658]; rfl)), ⟨fun _ => ⟨fun h9 => absurd h9 (by rw [c_10_2656]; decide), fun _ => (by rw [nI_clamp (n := js) (by omega)]; exact ⟨rfl, rfl, rfl⟩)⟩, fun h9 => absurd (by unfold SHX; simp only [ifc_t a2650, ifc_f c_10_2651, ifc_t c_10_2656, ifc_t a2658]) h9⟩⟩) rfl gX11_shelf_5.2.2.2.2.2
      · refine lv_if_ne (tgt := 106) hx hb gX11_shelf_2.1 (by decide) (fun c9 => absurd (by decide) c9) (fun _ => ?_)
        refine lv_iconst (v := (-1)) hx hb gX11_shelf_2.2.1 (by decide) ?_
        refine toQ hQ0 ?_
        exact RI (v := (-1)) hC hP hD hS [0, 1, 2, 3, 4, 5, 6, 7, 8, 9, 10] (fhw, fhn, fht) rfl rfl (by decide) (⟨(by unfold SHX; first | rfl | (simp only [ifc_t a2650, ifc_f c_10_2651, ifc_t c_10_2656, ifc_f a2658]; done) | (simp only [ifc_t a2650, ifc_f c_10_2651, ifc_t c_10_2656, ifc_f a2658]; rfl)), ⟨fun h9 => absurd ((show SHX (nI js) x2 x3 kbpapers kbsayings kbfindings = (-1) from by unfold SHX; simp only [ifc_t a2650, ifc_f c_10_2651, ifc_t c_10_2656, ifc_f a2658]).symm.trans h9) (by decide), fun _ => ⟨rfl, rfl, rfl⟩⟩⟩) rfl gX11_shelf_2.2.2.1
    by_cases c_10_2661 : x2 = 2
    · refine lv_tableIn (tgt := 76) hx hb gX11_shelf_0.2.2.2.2.2.2.1 (by rw [c_10_2661]; decide) (by rw [c_10_2661]; decide) (by rw [c_10_2661]; rfl) (by decide) ?_
      refine lv_aload_n hx hb gX11_shelf_2.2.2.2.1 rfl (lv_at0 hl) ?_
      refine gf_X11_15 hC rfl hK hP 0 rfl rfl gX11_shelf_2.2.2.2.2.1 ?_
      refine gf_X11_271 hC rfl hK hP 1 rfl rfl gX11_shelf_2.2.2.2.2.2.1 ?_
      refine lv_iload_n hx hb gX11_shelf_2.2.2.2.2.2.2.1 rfl (lv_at3 hl) ?_
      refine pV hC hK hl hP hD (c_T_has l G bfindings x3 12 4 bfindingsc kbfindings) si_X11_124 [4] sm_4 fm_4 nd_4 rfl rfl rfl rfl rfl (Nat.le_of_ble_eq_true rfl) rm_5_1_2 ⟨by first | exact Nat.le_of_ble_eq_true rfl | exact Nat.zero_le _, by first | exact Nat.le_of_ble_eq_true rfl | exact Nat.zero_le _⟩ gX11_shelf_2.2.2.2.2.2.2.2.1 (Kors (Keqa fun a2663 => ?_) (Keqa fun a2663 => ?_))
      · refine lv_if_ne (tgt := 106) hx hb gX11_shelf_2.2.2.2.2.2.2.2.2.1 (by decide) (fun _ => ?_) (fun c9 => absurd c9 (by decide))
        refine lv_iload_n hx hb gX11_shelf_3.2.2.2.2.2.2.2.2.2 rfl (lv_at2 hl) ?_
        refine lv_iconst (v := 3) hx hb gX11_shelf_4.1 (by decide) ?_
        refine lv_icmp_ne (tgt := 123) hx hb gX11_shelf_4.2.1 (by decide) (fun _ => ?_) (fun c9 => absurd c9 ((by rw [c_10_2661]; decide)))
        refine lv_aload_n hx hb gX11_shelf_4.2.2.2.2.2.2.2.2.1 rfl (lv_at0 hl) ?_
        refine gf_X11_72 hC rfl hK hP 0 rfl rfl gX11_shelf_4.2.2.2.2.2.2.2.2.2 ?_
        refine lv_iload_n hx hb gX11_shelf_5.1 rfl (lv_at1 hl) ?_
        refine lv_iload_n hx hb gX11_shelf_5.2.1 rfl (lv_at2 hl) ?_
        refine lv_iload_n hx hb gX11_shelf_5.2.2.1 rfl (lv_at3 hl) ?_
        refine vV (wr := [(h0, oX11 bb kk ikp sg do9 ru9 ta9 tp9 ro9 ho9 de9), (bb, oX0 bpersons bpapers bstamps bversions blines bsteps bsayings bfindings bwarnings bquestions td vd vl gp), (bpapers, oX8 12 6 bpapersc (nI kbpapers)), (bsayings, oX8 16 8 bsayingsc (nI kbsayings)), (bfindings, oX8 12 4 bfindingsc (nI kbfindings)), (ht, iA G 4 fht), (hs, iA G 4 fhs), (hz, iA G 4 fhz)]) hC hK hl hP hD hS hA (c_holdX l G ho9 js hs hz hi hw hn ht fhw fhn x2 x3 (by omega)) si_X11_324 [5, 6, 7] [0, 1, 2, 3, 4, 8, 9, 10] sm_5_6_7 fm_5_6_7 nd_5_6_7 sm_0_1_2_3_4_8_9_10 nd_0_1_2_3_4_8_9_10 dj_5_6_7__0_1_2_3_4_8_9_10 rfl rfl rfl rfl rfl (Nat.le_of_ble_eq_true rfl) rm_5_3_4 ⟨Nat.le_of_ble_eq_true rfl, Nat.le_of_ble_eq_true rfl⟩ gX11_shelf_5.2.2.2.1 (fun u2665 H locs hr2664 hP hD hS => ?_)
        refine Kpdr (ws := [(h0, oX11 bb kk ikp sg do9 ru9 ta9 tp9 ro9 ho9 de9), (bb, oX0 bpersons bpapers bstamps bversions blines bsteps bsayings bfindings bwarnings bquestions td vd vl gp), (bpapers, oX8 12 6 bpapersc (nI kbpapers)), (bsayings, oX8 16 8 bsayingsc (nI kbsayings)), (bfindings, oX8 12 4 bfindingsc (nI kbfindings)), (ht, iA G 4 fht), (hs, iA G 4 fhs), (hz, iA G 4 fhz), (ho9, oX4 hs hz hi hw hn ht), (hw, iA G 4 (upd fhw js x2)), (hn, iA G 4 (upd fhn js x3))]) hP hD (fun hP hD => ?_)
        refine lv_iconst (v := 1) hx hb gX11_shelf_5.2.2.2.2.1 (by decide) ?_
        refine toQ hQ0 ?_
        exact RI (v := 1) hC hP hD hS [0, 1, 2, 3, 4, 8, 9, 10, 5, 6, 7] ((upd fhw js x2), (upd fhn js x3), fht) rfl rfl (by decide) (⟨(by unfold SHX; first | rfl | (simp only [ifc_t a2650, ifc_f c_10_2651, ifc_f c_10_2656, ifc_t c_10_2661, ifc_t a2663]; done) | (simp only [ifc_t a2650, ifc_f c_10_2651, ifc_f c_10_2656, ifc_t c_10_2661, ifc_t a2663]; rfl)), ⟨fun _ => ⟨fun h9 => absurd h9 (by rw [c_10_2661]; decide), fun _ => (by rw [nI_clamp (n := js) (by omega)]; exact ⟨rfl, rfl, rfl⟩)⟩, fun h9 => absurd (by unfold SHX; simp only [ifc_t a2650, ifc_f c_10_2651, ifc_f c_10_2656, ifc_t c_10_2661, ifc_t a2663]) h9⟩⟩) rfl gX11_shelf_5.2.2.2.2.2
      · refine lv_if_ne (tgt := 106) hx hb gX11_shelf_2.2.2.2.2.2.2.2.2.1 (by decide) (fun c9 => absurd (by decide) c9) (fun _ => ?_)
        refine lv_iconst (v := (-1)) hx hb gX11_shelf_2.2.2.2.2.2.2.2.2.2 (by decide) ?_
        refine toQ hQ0 ?_
        exact RI (v := (-1)) hC hP hD hS [0, 1, 2, 3, 4, 5, 6, 7, 8, 9, 10] (fhw, fhn, fht) rfl rfl (by decide) (⟨(by unfold SHX; first | rfl | (simp only [ifc_t a2650, ifc_f c_10_2651, ifc_f c_10_2656, ifc_t c_10_2661, ifc_f a2663]; done) | (simp only [ifc_t a2650, ifc_f c_10_2651, ifc_f c_10_2656, ifc_t c_10_2661, ifc_f a2663]; rfl)), ⟨fun h9 => absurd ((show SHX (nI js) x2 x3 kbpapers kbsayings kbfindings = (-1) from by unfold SHX; simp only [ifc_t a2650, ifc_f c_10_2651, ifc_f c_10_2656, ifc_t c_10_2661, ifc_f a2663]).symm.trans h9) (by decide), fun _ => ⟨rfl, rfl, rfl⟩⟩⟩) rfl gX11_shelf_3.1
    by_cases c_10_2666 : x2 = 3
    · refine lv_tableIn (tgt := 92) hx hb gX11_shelf_0.2.2.2.2.2.2.1 (by rw [c_10_2666]; decide) (by rw [c_10_2666]; decide) (by rw [c_10_2666]; rfl) (by decide) ?_
      refine lv_iload_n hx hb gX11_shelf_3.2.1 rfl (lv_at3 hl) ?_
      refine pS hC hK hl (c_isSheet l G x3) si_X11_164 rfl rfl (Nat.le_of_ble_eq_true rfl) rm_5_2_1 ⟨by first | exact Nat.le_of_ble_eq_true rfl | exact Nat.zero_le _, by first | exact Nat.le_of_ble_eq_true rfl | exact Nat.zero_le _⟩ gX11_shelf_3.2.2.1 (Kors (Keqa fun a2668 => ?_) (Keqa fun a2668 => ?_))
      · refine lv_if_ne (tgt := 106) hx hb gX11_shelf_3.2.2.2.1 (by decide) (fun _ => ?_) (fun c9 => absurd c9 (by decide))
        obtain ⟨ju, hju, rfl⟩ := Wi3 a2668
        refine lv_iload_n hx hb gX11_shelf_3.2.2.2.2.2.2.2.2.2 rfl (lv_at2 hl) ?_
        refine lv_iconst (v := 3) hx hb gX11_shelf_4.1 (by decide) ?_
        refine lv_icmp_ne (tgt := 123) hx hb gX11_shelf_4.2.1 (by decide) (fun c9 => absurd (c_10_2666) c9) (fun _ => ?_)
        refine lv_aload_n hx hb gX11_shelf_4.2.2.1 rfl (lv_at0 hl) ?_
        refine gf_X11_72 hC rfl hK hP 0 rfl rfl gX11_shelf_4.2.2.2.1 ?_
        refine lv_iload_n hx hb gX11_shelf_4.2.2.2.2.1 rfl (lv_at1 hl) ?_
        refine lv_iload_n hx hb gX11_shelf_4.2.2.2.2.2.1 rfl (lv_at3 hl) ?_
        refine vV (wr := [(h0, oX11 bb kk ikp sg do9 ru9 ta9 tp9 ro9 ho9 de9), (bb, oX0 bpersons bpapers bstamps bversions blines bsteps bsayings bfindings bwarnings bquestions td vd vl gp), (bpapers, oX8 12 6 bpapersc (nI kbpapers)), (bsayings, oX8 16 8 bsayingsc (nI kbsayings)), (bfindings, oX8 12 4 bfindingsc (nI kbfindings))]) hC hK hl hP hD hS hA (c_holdRowX l G ho9 js ju hs hz hi hw hn ht fhw fhn fht fhs fhz (by omega) (by omega)) si_X11_321 [5, 6, 7, 8, 9, 10] [0, 1, 2, 3, 4] sm_5_6_7_8_9_10 fm_5_6_7_8_9_10 nd_5_6_7_8_9_10 sm_0_1_2_3_4 nd_0_1_2_3_4 dj_5_6_7_8_9_10__0_1_2_3_4 rfl rfl rfl rfl rfl (Nat.le_of_ble_eq_true rfl) rm_5_4_3 ⟨Nat.le_of_ble_eq_true rfl, Nat.le_of_ble_eq_true rfl⟩ gX11_shelf_4.2.2.2.2.2.2.1 (fun ghw2671 H locs hr2669 hP hD hS => ?_)
        try dsimp only at hr2669
        refine Kpdr (ws := [(h0, oX11 bb kk ikp sg do9 ru9 ta9 tp9 ro9 ho9 de9), (bb, oX0 bpersons bpapers bstamps bversions blines bsteps bsayings bfindings bwarnings bquestions td vd vl gp), (bpapers, oX8 12 6 bpapersc (nI kbpapers)), (bsayings, oX8 16 8 bsayingsc (nI kbsayings)), (bfindings, oX8 12 4 bfindingsc (nI kbfindings)), (ho9, oX4 hs hz hi hw hn ht), (hw, iA G 4 ghw2671), (hn, iA G 4 (upd fhn js (fhz ju))), (ht, iA G 4 (upd fht js (fhs ju))), (hs, iA G 4 fhs), (hz, iA G 4 fhz)]) hP hD (fun hP hD => ?_)
        have w2672 := hr2669
        refine lv_goto (tgt := 133) hx hb gX11_shelf_4.2.2.2.2.2.2.2.1 (by decide) ?_
        refine lv_iconst (v := 1) hx hb gX11_shelf_5.2.2.2.2.1 (by decide) ?_
        refine toQ hQ0 ?_
        exact RI (v := 1) hC hP hD hS [0, 1, 2, 3, 4, 5, 6, 7, 8, 9, 10] (ghw2671, (upd fhn js (fhz ju)), (upd fht js (fhs ju))) rfl rfl (by decide) (⟨(by unfold SHX; first | rfl | (simp only [ifc_t a2650, ifc_f c_10_2651, ifc_f c_10_2656, ifc_f c_10_2661, ifc_t c_10_2666, ifc_t a2668]; done) | (simp only [ifc_t a2650, ifc_f c_10_2651, ifc_f c_10_2656, ifc_f c_10_2661, ifc_t c_10_2666, ifc_t a2668]; rfl)), ⟨fun _ => ⟨fun _ => (by rw [nI_clamp (n := js) (by omega), nI_clamp (n := ju) (by omega)]; exact ⟨w2672, rfl, rfl⟩), fun h9 => absurd c_10_2666 h9⟩, fun h9 => absurd (by unfold SHX; simp only [ifc_t a2650, ifc_f c_10_2651, ifc_f c_10_2656, ifc_f c_10_2661, ifc_t c_10_2666, ifc_t a2668]) h9⟩⟩) rfl gX11_shelf_5.2.2.2.2.2
      · refine lv_if_ne (tgt := 106) hx hb gX11_shelf_3.2.2.2.1 (by decide) (fun c9 => absurd (by decide) c9) (fun _ => ?_)
        refine lv_iconst (v := (-1)) hx hb gX11_shelf_3.2.2.2.2.1 (by decide) ?_
        refine toQ hQ0 ?_
        exact RI (v := (-1)) hC hP hD hS [0, 1, 2, 3, 4, 5, 6, 7, 8, 9, 10] (fhw, fhn, fht) rfl rfl (by decide) (⟨(by unfold SHX; first | rfl | (simp only [ifc_t a2650, ifc_f c_10_2651, ifc_f c_10_2656, ifc_f c_10_2661, ifc_t c_10_2666, ifc_f a2668]; done) | (simp only [ifc_t a2650, ifc_f c_10_2651, ifc_f c_10_2656, ifc_f c_10_2661, ifc_t c_10_2666, ifc_f a2668]; rfl)), ⟨fun h9 => absurd ((show SHX (nI js) x2 x3 kbpapers kbsayings kbfindings = (-1) from by unfold SHX; simp only [ifc_t a2650, ifc_f c_10_2651, ifc_f c_10_2656, ifc_f c_10_2661, ifc_t c_10_2666, ifc_f a2668]).symm.trans h9) (by decide), fun _ => ⟨rfl, rfl, rfl⟩⟩⟩) rfl gX11_shelf_3.2.2.2.2.2.1
    by_cases c_10_2673 : x2 = 4
    · refine lv_tableIn (tgt := 101) hx hb gX11_shelf_0.2.2.2.2.2.2.1 (by rw [c_10_2673]; decide) (by rw [c_10_2673]; decide) (by rw [c_10_2673]; rfl) (by decide) ?_
      refine lv_goto (tgt := 106) hx hb gX11_shelf_3.2.2.2.2.2.2.1 (by decide) ?_
      refine lv_iload_n hx hb gX11_shelf_3.2.2.2.2.2.2.2.2.2 rfl (lv_at2 hl) ?_
      refine lv_iconst (v := 3) hx hb gX11_shelf_4.1 (by decide) ?_
      refine lv_icmp_ne (tgt := 123) hx hb gX11_shelf_4.2.1 (by decide) (fun _ => ?_) (fun c9 => absurd c9 (c_10_2666))
      refine lv_aload_n hx hb gX11_shelf_4.2.2.2.2.2.2.2.2.1 rfl (lv_at0 hl) ?_
      refine gf_X11_72 hC rfl hK hP 0 rfl rfl gX11_shelf_4.2.2.2.2.2.2.2.2.2 ?_
      refine lv_iload_n hx hb gX11_shelf_5.1 rfl (lv_at1 hl) ?_
      refine lv_iload_n hx hb gX11_shelf_5.2.1 rfl (lv_at2 hl) ?_
      refine lv_iload_n hx hb gX11_shelf_5.2.2.1 rfl (lv_at3 hl) ?_
      refine vV (wr := [(h0, oX11 bb kk ikp sg do9 ru9 ta9 tp9 ro9 ho9 de9), (bb, oX0 bpersons bpapers bstamps bversions blines bsteps bsayings bfindings bwarnings bquestions td vd vl gp), (bpapers, oX8 12 6 bpapersc (nI kbpapers)), (bsayings, oX8 16 8 bsayingsc (nI kbsayings)), (bfindings, oX8 12 4 bfindingsc (nI kbfindings)), (ht, iA G 4 fht), (hs, iA G 4 fhs), (hz, iA G 4 fhz)]) hC hK hl hP hD hS hA (c_holdX l G ho9 js hs hz hi hw hn ht fhw fhn x2 x3 (by omega)) si_X11_324 [5, 6, 7] [0, 1, 2, 3, 4, 8, 9, 10] sm_5_6_7 fm_5_6_7 nd_5_6_7 sm_0_1_2_3_4_8_9_10 nd_0_1_2_3_4_8_9_10 dj_5_6_7__0_1_2_3_4_8_9_10 rfl rfl rfl rfl rfl (Nat.le_of_ble_eq_true rfl) rm_5_3_4 ⟨Nat.le_of_ble_eq_true rfl, Nat.le_of_ble_eq_true rfl⟩ gX11_shelf_5.2.2.2.1 (fun u2675 H locs hr2674 hP hD hS => ?_)
      refine Kpdr (ws := [(h0, oX11 bb kk ikp sg do9 ru9 ta9 tp9 ro9 ho9 de9), (bb, oX0 bpersons bpapers bstamps bversions blines bsteps bsayings bfindings bwarnings bquestions td vd vl gp), (bpapers, oX8 12 6 bpapersc (nI kbpapers)), (bsayings, oX8 16 8 bsayingsc (nI kbsayings)), (bfindings, oX8 12 4 bfindingsc (nI kbfindings)), (ht, iA G 4 fht), (hs, iA G 4 fhs), (hz, iA G 4 fhz), (ho9, oX4 hs hz hi hw hn ht), (hw, iA G 4 (upd fhw js x2)), (hn, iA G 4 (upd fhn js x3))]) hP hD (fun hP hD => ?_)
      refine lv_iconst (v := 1) hx hb gX11_shelf_5.2.2.2.2.1 (by decide) ?_
      refine toQ hQ0 ?_
      exact RI (v := 1) hC hP hD hS [0, 1, 2, 3, 4, 8, 9, 10, 5, 6, 7] ((upd fhw js x2), (upd fhn js x3), fht) rfl rfl (by decide) (⟨(by unfold SHX; first | rfl | (simp only [ifc_t a2650, ifc_f c_10_2651, ifc_f c_10_2656, ifc_f c_10_2661, ifc_f c_10_2666, ifc_t c_10_2673]; done) | (simp only [ifc_t a2650, ifc_f c_10_2651, ifc_f c_10_2656, ifc_f c_10_2661, ifc_f c_10_2666, ifc_t c_10_2673]; rfl)), ⟨fun _ => ⟨fun h9 => absurd h9 c_10_2666, fun _ => (by rw [nI_clamp (n := js) (by omega)]; exact ⟨rfl, rfl, rfl⟩)⟩, fun h9 => absurd (by unfold SHX; simp only [ifc_t a2650, ifc_f c_10_2651, ifc_f c_10_2656, ifc_f c_10_2661, ifc_f c_10_2666, ifc_t c_10_2673]) h9⟩⟩) rfl gX11_shelf_5.2.2.2.2.2
    refine lv_tableOut (tgt := 104) hx hb gX11_shelf_0.2.2.2.2.2.2.1 (by have q9 := sw_0_4 (x := x2); simp only [c_10_2651, c_10_2656, c_10_2661, c_10_2666, c_10_2673, not_false_eq_true, true_implies] at q9; exact q9) (by decide) ?_
    refine lv_iconst (v := (-1)) hx hb gX11_shelf_3.2.2.2.2.2.2.2.1 (by decide) ?_
    refine toQ hQ0 ?_
    exact RI (v := (-1)) hC hP hD hS [0, 1, 2, 3, 4, 5, 6, 7, 8, 9, 10] (fhw, fhn, fht) rfl rfl (by decide) (⟨(by unfold SHX; first | rfl | (simp only [ifc_t a2650, ifc_f c_10_2651, ifc_f c_10_2656, ifc_f c_10_2661, ifc_f c_10_2666, ifc_f c_10_2673]; done) | (simp only [ifc_t a2650, ifc_f c_10_2651, ifc_f c_10_2656, ifc_f c_10_2661, ifc_f c_10_2666, ifc_f c_10_2673]; rfl)), ⟨fun h9 => absurd ((show SHX (nI js) x2 x3 kbpapers kbsayings kbfindings = (-1) from by unfold SHX; simp only [ifc_t a2650, ifc_f c_10_2651, ifc_f c_10_2656, ifc_f c_10_2661, ifc_f c_10_2666, ifc_f c_10_2673]).symm.trans h9) (by decide), fun _ => ⟨rfl, rfl, rfl⟩⟩⟩) rfl gX11_shelf_3.2.2.2.2.2.2.2.2.1
  · refine lv_if_ne (tgt := 9) hx hb gX11_shelf_0.2.2.1 (by decide) (fun c9 => absurd (by decide) c9) (fun _ => ?_)
    refine lv_iconst (v := (-1)) hx hb gX11_shelf_0.2.2.2.1 (by decide) ?_
    refine toQ hQ0 ?_
    exact RI (v := (-1)) hC hP hD hS [0, 1, 2, 3, 4, 5, 6, 7, 8, 9, 10] (fhw, fhn, fht) rfl rfl (by decide) (⟨(by unfold SHX; first | rfl | (simp only [ifc_f a2650]; done) | (simp only [ifc_f a2650]; rfl)), ⟨fun h9 => absurd ((show SHX x1 x2 x3 kbpapers kbsayings kbfindings = (-1) from by unfold SHX; simp only [ifc_f a2650]).symm.trans h9) (by decide), fun _ => ⟨rfl, rfl, rfl⟩⟩⟩) rfl gX11_shelf_0.2.2.2.2.1
def K_c_ran (l : Launch) (G : GG) (h0 : Nat) (bb : Nat) (tr9 : Nat) (jr : Nat) (dk : Int32) (dn : Int32) (dp : Int32) (da : Int32) (dq : Int32) : Prop := MP l G yX2_ran cX2_ran 1 (some .int) 1 [.ref h0] [(h0, oX2 bb tr9 (nI jr) dk dn dp da dq)] (fun r : Int32 => r = nI jr)
set_option maxHeartbeats 4000000 in
set_option maxRecDepth 100000 in
theorem c_ran (l : Launch) (G : GG) (h0 : Nat) (bb : Nat) (tr9 : Nat) (jr : Nat) (dk : Int32) (dn : Int32) (dp : Int32) (da : Int32) (dq : Int32) : K_c_ran l G h0 bb tr9 jr dk dn dp da dq := by
  refine MP.start (by decide +kernel) (Nat.le_of_ble_eq_true rfl) ?_
  intro p e s m below meth c ls hC hK hP hD hl
  refine absQ (fun Q0 hQ0 => ?_)
  have hl : lv_has ls 1 [(0, .ref h0)] := hl
  refine Kan8 hC (fun hx hb hr hml hB hown hlocks hnm => ?_)
  refine lv_aload_n hx hb gX2_ran_0.1 rfl (lv_at0 hl) ?_
  refine gf_X2_19 hC rfl hK hP 0 rfl rfl gX2_ran_0.2.1 ?_
  refine toQ hQ0 ?_
  exact RP (v := nI jr) hC (rfl) rfl gX2_ran_0.2.2
def K_c_traced (l : Launch) (G : GG) (h0 : Nat) (i : Int32) (bb : Nat) (tr9 : Nat) (jr : Nat) (dk : Int32) (dn : Int32) (dp : Int32) (da : Int32) (dq : Int32) (ftr : Nat → Int32) : Prop := MP l G yX2_traced cX2_traced 2 (some .int) 1 [.ref h0, .int i] [(h0, oX2 bb tr9 (nI jr) dk dn dp da dq), (tr9, iA G 30 ftr)] (fun r : Int32 => True)
set_option maxHeartbeats 4000000 in
set_option maxRecDepth 100000 in
theorem c_traced (l : Launch) (G : GG) (h0 : Nat) (i : Int32) (bb : Nat) (tr9 : Nat) (jr : Nat) (dk : Int32) (dn : Int32) (dp : Int32) (da : Int32) (dq : Int32) (ftr : Nat → Int32) (hjr : jr ≤ 30) : K_c_traced l G h0 i bb tr9 jr dk dn dp da dq ftr := by
  refine MP.start (by decide +kernel) (Nat.le_of_ble_eq_true rfl) ?_
  intro p e s m below meth c ls hC hK hP hD hl
  refine absQ (fun Q0 hQ0 => ?_)
  have hl : lv_has ls 2 [(0, .ref h0), (1, .int i)] := hl
  refine Kan8 hC (fun hx hb hr hml hB hown hlocks hnm => ?_)
  refine lv_iload_n hx hb gX2_traced_0.1 rfl (lv_at1 hl) ?_
  refine lv_if_lt (tgt := 27) hx hb gX2_traced_0.2.1 (by decide) (fun c_1_2676 => ?_) (fun c_1_2676 => ?_)
  · refine lv_bipush (v := (-3)) hx hb gX2_traced_1.2.2.2.2.1 (by decide) ?_
    refine toQ hQ0 ?_
    exact RP (v := (-3)) hC (trivial) rfl gX2_traced_1.2.2.2.2.2
  · refine lv_iload_n hx hb gX2_traced_0.2.2.1 rfl (lv_at1 hl) ?_
    refine lv_aload_n hx hb gX2_traced_0.2.2.2.1 rfl (lv_at0 hl) ?_
    refine gf_X2_19 hC rfl hK hP 0 rfl rfl gX2_traced_0.2.2.2.2.1 ?_
    refine lv_icmp_ge (tgt := 27) hx hb gX2_traced_0.2.2.2.2.2.1 (by decide) (fun c_9_2677 => ?_) (fun c_9_2677 => ?_)
    · refine lv_bipush (v := (-3)) hx hb gX2_traced_1.2.2.2.2.1 (by decide) ?_
      refine toQ hQ0 ?_
      exact RP (v := (-3)) hC (trivial) rfl gX2_traced_1.2.2.2.2.2
    · refine lv_iload_n hx hb gX2_traced_0.2.2.2.2.2.2.1 rfl (lv_at1 hl) ?_
      refine lv_bipush (v := 30) hx hb gX2_traced_0.2.2.2.2.2.2.2.1 (by decide) ?_
      refine lv_icmp_ge (tgt := 27) hx hb gX2_traced_0.2.2.2.2.2.2.2.2.1 (by decide) (fun c_15_2678 => ?_) (fun c_15_2678 => ?_)
      · refine lv_bipush (v := (-3)) hx hb gX2_traced_1.2.2.2.2.1 (by decide) ?_
        refine toQ hQ0 ?_
        exact RP (v := (-3)) hC (trivial) rfl gX2_traced_1.2.2.2.2.2
      · obtain ⟨ji, hji, rfl⟩ := ltN (N := 30) (by decide) c_1_2676 c_15_2678
        refine lv_aload_n hx hb gX2_traced_0.2.2.2.2.2.2.2.2.2 rfl (lv_at0 hl) ?_
        refine gf_X2_11 hC rfl hK hP 0 rfl rfl gX2_traced_1.1 ?_
        refine lv_iload_n hx hb gX2_traced_1.2.1 rfl (lv_at1 hl) ?_
        refine aldN hC hK hP 1 rfl (k := ji) (by omega) (Nat.le_of_ble_eq_true rfl) (v := ftr ji) rfl gX2_traced_1.2.2.1 ?_
        refine lv_topi (fun x2679 ex2679 => ?_)
        refine lv_goto (tgt := 29) hx hb gX2_traced_1.2.2.2.1 (by decide) ?_
        refine toQ hQ0 ?_
        exact RP (v := x2679) hC (trivial) rfl gX2_traced_1.2.2.2.2.2
def K_c_tracedX (l : Launch) (G : GG) (h0 : Nat) (ji : Nat) (bb : Nat) (tr9 : Nat) (jr : Nat) (dk : Int32) (dn : Int32) (dp : Int32) (da : Int32) (dq : Int32) (ftr : Nat → Int32) : Prop := MP l G yX2_traced cX2_traced 2 (some .int) 1 [.ref h0, .int (nI ji)] [(h0, oX2 bb tr9 (nI jr) dk dn dp da dq), (tr9, iA G 30 ftr)] (fun r : Int32 => r = ftr ji)
set_option maxHeartbeats 4000000 in
set_option maxRecDepth 100000 in
theorem c_tracedX (l : Launch) (G : GG) (h0 : Nat) (ji : Nat) (bb : Nat) (tr9 : Nat) (jr : Nat) (dk : Int32) (dn : Int32) (dp : Int32) (da : Int32) (dq : Int32) (ftr : Nat → Int32) (hji : ji < jr) (hjr : jr ≤ 30) : K_c_tracedX l G h0 ji bb tr9 jr dk dn dp da dq ftr := by
  refine MP.start (by decide +kernel) (Nat.le_of_ble_eq_true rfl) ?_
  intro p e s m below meth c ls hC hK hP hD hl
  refine absQ (fun Q0 hQ0 => ?_)
  have hl : lv_has ls 2 [(0, .ref h0), (1, .int (nI ji))] := hl
  refine Kan8 hC (fun hx hb hr hml hB hown hlocks hnm => ?_)
  refine lv_iload_n hx hb gX2_traced_0.1 rfl (lv_at1 hl) ?_
  refine lv_if_lt (tgt := 27) hx hb gX2_traced_0.2.1 (by decide) (fun c9 => absurd c9 ((nI_nn (by omega)))) (fun _ => ?_)
  refine lv_iload_n hx hb gX2_traced_0.2.2.1 rfl (lv_at1 hl) ?_
  refine lv_aload_n hx hb gX2_traced_0.2.2.2.1 rfl (lv_at0 hl) ?_
  refine gf_X2_19 hC rfl hK hP 0 rfl rfl gX2_traced_0.2.2.2.2.1 ?_
  refine lv_icmp_ge (tgt := 27) hx hb gX2_traced_0.2.2.2.2.2.1 (by decide) (fun c9 => absurd c9 ((nI_ge (a := ji) (b := jr) (by omega) (by omega)))) (fun _ => ?_)
  refine lv_iload_n hx hb gX2_traced_0.2.2.2.2.2.2.1 rfl (lv_at1 hl) ?_
  refine lv_bipush (v := 30) hx hb gX2_traced_0.2.2.2.2.2.2.2.1 (by decide) ?_
  refine lv_icmp_ge (tgt := 27) hx hb gX2_traced_0.2.2.2.2.2.2.2.2.1 (by decide) (fun c9 => absurd c9 ((nI_ge (a := ji) (b := 30) (by omega) (by omega)))) (fun _ => ?_)
  refine lv_aload_n hx hb gX2_traced_0.2.2.2.2.2.2.2.2.2 rfl (lv_at0 hl) ?_
  refine gf_X2_11 hC rfl hK hP 0 rfl rfl gX2_traced_1.1 ?_
  refine lv_iload_n hx hb gX2_traced_1.2.1 rfl (lv_at1 hl) ?_
  refine aldN hC hK hP 1 rfl (k := ji) (by omega) (Nat.le_of_ble_eq_true rfl) (v := ftr ji) rfl gX2_traced_1.2.2.1 ?_
  refine lv_goto (tgt := 29) hx hb gX2_traced_1.2.2.2.1 (by decide) ?_
  refine toQ hQ0 ?_
  exact RP (v := ftr ji) hC (rfl) rfl gX2_traced_1.2.2.2.2.2
def K_p_trace (l : Launch) (G : GG) (h0 : Nat) (x1 : Int32) (bb : Nat) (kk : Nat) (ikp : Int32) (sg : Nat) (do9 : Nat) (ru9 : Nat) (ta9 : Nat) (tp9 : Nat) (ro9 : Nat) (ho9 : Nat) (de9 : Nat) (tr9 : Nat) (jr : Nat) (dk : Int32) (dn : Int32) (dp : Int32) (da : Int32) (dq : Int32) (ftr : Nat → Int32) : Prop := MP l G yX11_trace cX11_trace 2 (some .int) 4 [.ref h0, .int x1] [(h0, oX11 bb kk ikp sg do9 ru9 ta9 tp9 ro9 ho9 de9), (de9, oX2 bb tr9 (nI jr) dk dn dp da dq), (tr9, iA G 30 ftr)] (fun r : Int32 => r = ifc (Hs x1 jr) (ftr x1.toNatClampNeg) (-3))
set_option maxHeartbeats 4000000 in
set_option maxRecDepth 100000 in
theorem p_trace (l : Launch) (G : GG) (h0 : Nat) (x1 : Int32) (bb : Nat) (kk : Nat) (ikp : Int32) (sg : Nat) (do9 : Nat) (ru9 : Nat) (ta9 : Nat) (tp9 : Nat) (ro9 : Nat) (ho9 : Nat) (de9 : Nat) (tr9 : Nat) (jr : Nat) (dk : Int32) (dn : Int32) (dp : Int32) (da : Int32) (dq : Int32) (ftr : Nat → Int32) (hjr : jr ≤ 30) : K_p_trace l G h0 x1 bb kk ikp sg do9 ru9 ta9 tp9 ro9 ho9 de9 tr9 jr dk dn dp da dq ftr := by
  refine MP.start (by decide +kernel) (Nat.le_of_ble_eq_true rfl) ?_
  intro p e s m below meth c ls hC hK hP hD hl
  refine absQ (fun Q0 hQ0 => ?_)
  have hl : lv_has ls 2 [(0, .ref h0), (1, .int x1)] := hl
  refine Kan8 hC (fun hx hb hr hml hB hown hlocks hnm => ?_)
  refine lv_iload_n hx hb gX11_trace_0.1 rfl (lv_at1 hl) ?_
  refine lv_iconst (v := 0) hx hb gX11_trace_0.2.1 (by decide) ?_
  refine lv_aload_n hx hb gX11_trace_0.2.2.1 rfl (lv_at0 hl) ?_
  refine gf_X11_79 hC rfl hK hP 0 rfl rfl gX11_trace_0.2.2.2.1 ?_
  refine pV hC hK hl hP hD (c_ran l G de9 bb tr9 jr dk dn dp da dq) si_X11_349 [1] sm_1 fm_1 nd_1 rfl rfl rfl rfl rfl (Nat.le_of_ble_eq_true rfl) rm_4_1_1 ⟨by first | exact Nat.le_of_ble_eq_true rfl | exact Nat.zero_le _, by first | exact Nat.le_of_ble_eq_true rfl | exact Nat.zero_le _⟩ gX11_trace_0.2.2.2.2.1 (Keqr ?_)
  refine lv_iconst (v := 1) hx hb gX11_trace_0.2.2.2.2.2.1 (by decide) ?_
  refine lv_isub hx hb gX11_trace_0.2.2.2.2.2.2.1 ?_
  refine pS hC hK hl (c_within l G x1 0 ((nI jr) - 1)) si_X11_83 rfl rfl (Nat.le_of_ble_eq_true rfl) rm_4_1_3 ⟨by first | exact Nat.le_of_ble_eq_true rfl | exact Nat.zero_le _, by first | exact Nat.le_of_ble_eq_true rfl | exact Nat.zero_le _⟩ gX11_trace_0.2.2.2.2.2.2.2.1 (Kors (Keqa fun a2683 => ?_) (Keqa fun a2683 => ?_))
  · refine lv_if_eq (tgt := 28) hx hb gX11_trace_0.2.2.2.2.2.2.2.2.1 (by decide) (fun c9 => absurd c9 (by decide)) (fun _ => ?_)
    obtain ⟨ji, hji, rfl⟩ := Hs_nat (by omega) ((WiHc (by omega)).mp a2683)
    refine lv_aload_n hx hb gX11_trace_0.2.2.2.2.2.2.2.2.2 rfl (lv_at0 hl) ?_
    refine gf_X11_79 hC rfl hK hP 0 rfl rfl gX11_trace_1.1 ?_
    refine lv_iload_n hx hb gX11_trace_1.2.1 rfl (lv_at1 hl) ?_
    refine pV hC hK hl hP hD (c_tracedX l G de9 ji bb tr9 jr dk dn dp da dq ftr (by omega) (hjr)) si_X11_352 [1, 2] sm_1_2 fm_1_2 nd_1_2 rfl rfl rfl rfl rfl (Nat.le_of_ble_eq_true rfl) rm_4_1_2 ⟨by first | exact Nat.le_of_ble_eq_true rfl | exact Nat.zero_le _, by first | exact Nat.le_of_ble_eq_true rfl | exact Nat.zero_le _⟩ gX11_trace_1.2.2.1 (Keqr ?_)
    refine lv_goto (tgt := 30) hx hb gX11_trace_1.2.2.2.1 (by decide) ?_
    refine toQ hQ0 ?_
    exact RP (v := ftr ji) hC ((by simp only [nI_clamp (n := ji) (by omega), ifc_t (q := Hs (nI ji) jr) ((WiHc (by omega)).mp a2683)])) rfl gX11_trace_1.2.2.2.2.2
  · refine lv_if_eq (tgt := 28) hx hb gX11_trace_0.2.2.2.2.2.2.2.2.1 (by decide) (fun _ => ?_) (fun c9 => absurd (by decide) c9)
    refine lv_bipush (v := (-3)) hx hb gX11_trace_1.2.2.2.2.1 (by decide) ?_
    refine toQ hQ0 ?_
    exact RP (v := (-3)) hC ((by simp only [ifc_f (q := Hs x1 jr) (fun h9 => a2683 ((WiHc (by omega)).mpr h9))])) rfl gX11_trace_1.2.2.2.2.2
def K_c_tcount (l : Launch) (G : GG) (h0 : Nat) (tby : Nat) (kt : Nat) (tln : Nat) (tsp : Nat) (tkd : Int32) (ts9 : Int32) (tn9 : Int32) (tf9 : Int32) : Prop := MP l G yX10_count cX10_count 1 (some .int) 1 [.ref h0] [(h0, oX10 tby (nI kt) tln tsp tkd ts9 tn9 tf9)] (fun r : Int32 => r = nI kt)
set_option maxHeartbeats 4000000 in
set_option maxRecDepth 100000 in
theorem c_tcount (l : Launch) (G : GG) (h0 : Nat) (tby : Nat) (kt : Nat) (tln : Nat) (tsp : Nat) (tkd : Int32) (ts9 : Int32) (tn9 : Int32) (tf9 : Int32) : K_c_tcount l G h0 tby kt tln tsp tkd ts9 tn9 tf9 := by
  refine MP.start (by decide +kernel) (Nat.le_of_ble_eq_true rfl) ?_
  intro p e s m below meth c ls hC hK hP hD hl
  refine absQ (fun Q0 hQ0 => ?_)
  have hl : lv_has ls 1 [(0, .ref h0)] := hl
  refine Kan8 hC (fun hx hb hr hml hB hown hlocks hnm => ?_)
  refine lv_aload_n hx hb gX10_count_0.1 rfl (lv_at0 hl) ?_
  refine gf_X10_27 hC rfl hK hP 0 rfl rfl gX10_count_0.2.1 ?_
  refine toQ hQ0 ?_
  exact RP (v := nI kt) hC (rfl) rfl gX10_count_0.2.2
def K_p_many (l : Launch) (G : GG) (h0 : Nat) (x1 : Int32) (bb : Nat) (kk : Nat) (ikp : Int32) (sg : Nat) (do9 : Nat) (ru9 : Nat) (ta9 : Nat) (tp9 : Nat) (ro9 : Nat) (ho9 : Nat) (de9 : Nat) (clk : Nat) (fi : Nat) (la : Nat) (ml : Nat) (mm : Nat) (sl : Nat) (sm : Nat) (cl : Int32) (clm : Nat) (fclm : Nat → Int32) (ffi : Nat → Int32) (fla : Nat → Int32) (fml : Nat → Int32) (fmm : Nat → Int32) (fsl : Nat → Int32) (fsm : Nat → Int32) (fc : Nat) (sh : Nat) (r1 : Int32) (rc : Int32) (rh : Int32) (ffc : Nat → Int32) (fsh : Nat → Int32) (bpersons : Nat) (bpapers : Nat) (bstamps : Nat) (bversions : Nat) (blines : Nat) (bsteps : Nat) (bsayings : Nat) (bfindings : Nat) (bwarnings : Nat) (bquestions : Nat) (td : Int32) (vd : Int32) (vl : Int32) (gp : Int32) (bversionsc : Nat) (kbversions : Nat) (fbversions : Nat → Int32) (bpersonsc : Nat) (kbpersons : Nat) (fbpersons : Nat → Int32) (bpapersc : Nat) (kbpapers : Nat) (fbpapers : Nat → Int32) (blinesc : Nat) (kblines : Nat) (fblines : Nat → Int32) (bstepsc : Nat) (kbsteps : Nat) (fbsteps : Nat → Int32) (bstampsc : Nat) (kbstamps : Nat) (fbstamps : Nat → Int32) (bfindingsc : Nat) (kbfindings : Nat) (fbfindings : Nat → Int32) (bsayingsc : Nat) (kbsayings : Nat) (fbsayings : Nat → Int32) (bwarningsc : Nat) (kbwarnings : Nat) (bquestionsc : Nat) (kbquestions : Nat) (rr : Nat) (tc : Nat) (asd : Int32) (st9 : Int32) (tol : Int32) (rrc : Nat) (kr : Nat) (tby : Nat) (kt : Nat) (tln : Nat) (tsp : Nat) (tkd : Int32) (ts9 : Int32) (tn9 : Int32) (tf9 : Int32) (tr9 : Nat) (jr : Nat) (dk : Int32) (dn : Int32) (dp : Int32) (da : Int32) (dq : Int32) : Prop := MI l G yX11_many cX11_many 2 (some .int) 10 0 0 [.ref h0, .int x1] [(h0, oX11 bb kk ikp sg do9 ru9 ta9 tp9 ro9 ho9 de9), (sg, oX7 bb clk fi la ml mm sl sm cl), (clk, oX1 clm), (clm, iA G 36 fclm), (fi, iA G 12 ffi), (la, iA G 12 fla), (ml, iA G 12 fml), (mm, iA G 12 fmm), (sl, iA G 12 fsl), (sm, iA G 12 fsm), (ru9, oX6 bb sg fc sh r1 rc rh), (fc, iA G 5 ffc), (sh, iA G 8 fsh), (bb, oX0 bpersons bpapers bstamps bversions blines bsteps bsayings bfindings bwarnings bquestions td vd vl gp), (bversions, oX8 8 3 bversionsc (nI kbversions)), (bversionsc, iA G 24 fbversions), (bpersons, oX8 10 2 bpersonsc (nI kbpersons)), (bpersonsc, iA G 20 fbpersons), (bpapers, oX8 12 6 bpapersc (nI kbpapers)), (bpapersc, iA G 72 fbpapers), (blines, oX8 72 7 blinesc (nI kblines)), (blinesc, iA G 504 fblines), (bsteps, oX8 960 1 bstepsc (nI kbsteps)), (bstepsc, iA G 960 fbsteps), (bstamps, oX8 24 3 bstampsc (nI kbstamps)), (bstampsc, iA G 72 fbstamps), (bfindings, oX8 12 4 bfindingsc (nI kbfindings)), (bfindingsc, iA G 48 fbfindings), (bsayings, oX8 16 8 bsayingsc (nI kbsayings)), (bsayingsc, iA G 128 fbsayings), (bwarnings, oX8 16 3 bwarningsc (nI kbwarnings)), (bquestions, oX8 7 2 bquestionsc (nI kbquestions)), (ro9, oX5 bb rr tc asd st9 tol), (rr, oX8 7 2 rrc (nI kr)), (tp9, oX10 tby (nI kt) tln tsp tkd ts9 tn9 tf9), (de9, oX2 bb tr9 (nI jr) dk dn dp da dq)] (fun (r : Int32) (u : Int32 × (Nat → Int32) × (Nat → Int32) × (Nat → Int32) × (Nat → Int32) × (Nat → Int32) × (Nat → Int32) × (Nat → Int32) × Int32 × Int32 × Int32 × (Nat → Int32) × (Nat → Int32)) => (True) ∧ (u.1 = 0 ∨ u.1 = 1)) (fun u : Int32 × (Nat → Int32) × (Nat → Int32) × (Nat → Int32) × (Nat → Int32) × (Nat → Int32) × (Nat → Int32) × (Nat → Int32) × Int32 × Int32 × Int32 × (Nat → Int32) × (Nat → Int32) => [(h0, oX11 bb kk ikp sg do9 ru9 ta9 tp9 ro9 ho9 de9), (sg, oX7 bb clk fi la ml mm sl sm u.1), (clk, oX1 clm), (clm, iA G 36 u.2.1), (fi, iA G 12 u.2.2.1), (la, iA G 12 u.2.2.2.1), (ml, iA G 12 u.2.2.2.2.1), (mm, iA G 12 u.2.2.2.2.2.1), (sl, iA G 12 u.2.2.2.2.2.2.1), (sm, iA G 12 u.2.2.2.2.2.2.2.1), (ru9, oX6 bb sg fc sh u.2.2.2.2.2.2.2.2.1 u.2.2.2.2.2.2.2.2.2.1 u.2.2.2.2.2.2.2.2.2.2.1), (fc, iA G 5 u.2.2.2.2.2.2.2.2.2.2.2.1), (sh, iA G 8 u.2.2.2.2.2.2.2.2.2.2.2.2), (bb, oX0 bpersons bpapers bstamps bversions blines bsteps bsayings bfindings bwarnings bquestions td vd vl gp), (bversions, oX8 8 3 bversionsc (nI kbversions)), (bversionsc, iA G 24 fbversions), (bpersons, oX8 10 2 bpersonsc (nI kbpersons)), (bpersonsc, iA G 20 fbpersons), (bpapers, oX8 12 6 bpapersc (nI kbpapers)), (bpapersc, iA G 72 fbpapers), (blines, oX8 72 7 blinesc (nI kblines)), (blinesc, iA G 504 fblines), (bsteps, oX8 960 1 bstepsc (nI kbsteps)), (bstepsc, iA G 960 fbsteps), (bstamps, oX8 24 3 bstampsc (nI kbstamps)), (bstampsc, iA G 72 fbstamps), (bfindings, oX8 12 4 bfindingsc (nI kbfindings)), (bfindingsc, iA G 48 fbfindings), (bsayings, oX8 16 8 bsayingsc (nI kbsayings)), (bsayingsc, iA G 128 fbsayings), (bwarnings, oX8 16 3 bwarningsc (nI kbwarnings)), (bquestions, oX8 7 2 bquestionsc (nI kbquestions)), (ro9, oX5 bb rr tc asd st9 tol), (rr, oX8 7 2 rrc (nI kr)), (tp9, oX10 tby (nI kt) tln tsp tkd ts9 tn9 tf9), (de9, oX2 bb tr9 (nI jr) dk dn dp da dq)])
set_option maxHeartbeats 4000000 in
set_option maxRecDepth 100000 in
theorem p_many (l : Launch) (G : GG) (h0 : Nat) (x1 : Int32) (bb : Nat) (kk : Nat) (ikp : Int32) (sg : Nat) (do9 : Nat) (ru9 : Nat) (ta9 : Nat) (tp9 : Nat) (ro9 : Nat) (ho9 : Nat) (de9 : Nat) (clk : Nat) (fi : Nat) (la : Nat) (ml : Nat) (mm : Nat) (sl : Nat) (sm : Nat) (cl : Int32) (clm : Nat) (fclm : Nat → Int32) (ffi : Nat → Int32) (fla : Nat → Int32) (fml : Nat → Int32) (fmm : Nat → Int32) (fsl : Nat → Int32) (fsm : Nat → Int32) (fc : Nat) (sh : Nat) (r1 : Int32) (rc : Int32) (rh : Int32) (ffc : Nat → Int32) (fsh : Nat → Int32) (bpersons : Nat) (bpapers : Nat) (bstamps : Nat) (bversions : Nat) (blines : Nat) (bsteps : Nat) (bsayings : Nat) (bfindings : Nat) (bwarnings : Nat) (bquestions : Nat) (td : Int32) (vd : Int32) (vl : Int32) (gp : Int32) (bversionsc : Nat) (kbversions : Nat) (fbversions : Nat → Int32) (bpersonsc : Nat) (kbpersons : Nat) (fbpersons : Nat → Int32) (bpapersc : Nat) (kbpapers : Nat) (fbpapers : Nat → Int32) (blinesc : Nat) (kblines : Nat) (fblines : Nat → Int32) (bstepsc : Nat) (kbsteps : Nat) (fbsteps : Nat → Int32) (bstampsc : Nat) (kbstamps : Nat) (fbstamps : Nat → Int32) (bfindingsc : Nat) (kbfindings : Nat) (fbfindings : Nat → Int32) (bsayingsc : Nat) (kbsayings : Nat) (fbsayings : Nat → Int32) (bwarningsc : Nat) (kbwarnings : Nat) (bquestionsc : Nat) (kbquestions : Nat) (rr : Nat) (tc : Nat) (asd : Int32) (st9 : Int32) (tol : Int32) (rrc : Nat) (kr : Nat) (tby : Nat) (kt : Nat) (tln : Nat) (tsp : Nat) (tkd : Int32) (ts9 : Int32) (tn9 : Int32) (tf9 : Int32) (tr9 : Nat) (jr : Nat) (dk : Int32) (dn : Int32) (dp : Int32) (da : Int32) (dq : Int32) (hkbversions : kbversions ≤ 8) (hkbpersons : kbpersons ≤ 10) (hkbpapers : kbpapers ≤ 12) (hkblines : kblines ≤ 72) (hkbsteps : kbsteps ≤ 960) (hkbstamps : kbstamps ≤ 24) (hkbfindings : kbfindings ≤ 12) (hkbsayings : kbsayings ≤ 16) (hcl : cl = 0 ∨ cl = 1) : K_p_many l G h0 x1 bb kk ikp sg do9 ru9 ta9 tp9 ro9 ho9 de9 clk fi la ml mm sl sm cl clm fclm ffi fla fml fmm fsl fsm fc sh r1 rc rh ffc fsh bpersons bpapers bstamps bversions blines bsteps bsayings bfindings bwarnings bquestions td vd vl gp bversionsc kbversions fbversions bpersonsc kbpersons fbpersons bpapersc kbpapers fbpapers blinesc kblines fblines bstepsc kbsteps fbsteps bstampsc kbstamps fbstamps bfindingsc kbfindings fbfindings bsayingsc kbsayings fbsayings bwarningsc kbwarnings bquestionsc kbquestions rr tc asd st9 tol rrc kr tby kt tln tsp tkd ts9 tn9 tf9 tr9 jr dk dn dp da dq := by
  refine MI.start (by decide +kernel) (Nat.le_of_ble_eq_true rfl) ?_
  intro p e s m below meth c A ls hC hK hP hD hS hA hl
  refine absQ (fun Q0 hQ0 => ?_)
  have hl : lv_has ls 2 [(0, .ref h0), (1, .int x1)] := hl
  refine Kan8 hC (fun hx hb hr hml hB hown hlocks hnm => ?_)
  refine lv_iload_n hx hb gX11_many_0.1 rfl (lv_at1 hl) ?_
  by_cases c_1_2686 : x1 = 0
  · refine lv_tableIn (tgt := 76) hx hb gX11_many_0.2.1 (by rw [c_1_2686]; decide) (by rw [c_1_2686]; decide) (by rw [c_1_2686]; rfl) (by decide) ?_
    refine lv_aload_n hx hb gX11_many_0.2.2.1 rfl (lv_at0 hl) ?_
    refine gf_X11_15 hC rfl hK hP 0 rfl rfl gX11_many_0.2.2.2.1 ?_
    refine gf_X11_87 hC rfl hK hP 13 rfl rfl gX11_many_0.2.2.2.2.1 ?_
    refine toQ hQ0 ?_
    exact RI (v := td) hC hP hD hS [0, 1, 2, 3, 4, 5, 6, 7, 8, 9, 10, 11, 12, 13, 14, 15, 16, 17, 18, 19, 20, 21, 22, 23, 24, 25, 26, 27, 28, 29, 30, 31, 32, 33, 34, 35] (cl, fclm, ffi, fla, fml, fmm, fsl, fsm, r1, rc, rh, ffc, fsh) rfl rfl (by decide) (⟨trivial, hcl⟩) rfl gX11_many_0.2.2.2.2.2.1
  by_cases c_1_2687 : x1 = 1
  · refine lv_tableIn (tgt := 84) hx hb gX11_many_0.2.1 (by rw [c_1_2687]; decide) (by rw [c_1_2687]; decide) (by rw [c_1_2687]; rfl) (by decide) ?_
    refine lv_aload_n hx hb gX11_many_0.2.2.2.2.2.2.1 rfl (lv_at0 hl) ?_
    refine gf_X11_15 hC rfl hK hP 0 rfl rfl gX11_many_0.2.2.2.2.2.2.2.1 ?_
    refine gf_X11_107 hC rfl hK hP 13 rfl rfl gX11_many_0.2.2.2.2.2.2.2.2.1 ?_
    refine pV hC hK hl hP hD (c_T_count l G bpersons 10 2 bpersonsc kbpersons) si_X11_174 [16] sm_16 fm_16 nd_16 rfl rfl rfl rfl rfl (Nat.le_of_ble_eq_true rfl) rm_10_1_1 ⟨by first | exact Nat.le_of_ble_eq_true rfl | exact Nat.zero_le _, by first | exact Nat.le_of_ble_eq_true rfl | exact Nat.zero_le _⟩ gX11_many_0.2.2.2.2.2.2.2.2.2 (Keqr ?_)
    refine toQ hQ0 ?_
    exact RI (v := nI kbpersons) hC hP hD hS [0, 1, 2, 3, 4, 5, 6, 7, 8, 9, 10, 11, 12, 13, 14, 15, 16, 17, 18, 19, 20, 21, 22, 23, 24, 25, 26, 27, 28, 29, 30, 31, 32, 33, 34, 35] (cl, fclm, ffi, fla, fml, fmm, fsl, fsm, r1, rc, rh, ffc, fsh) rfl rfl (by decide) (⟨trivial, hcl⟩) rfl gX11_many_1.1
  by_cases c_1_2690 : x1 = 2
  · refine lv_tableIn (tgt := 95) hx hb gX11_many_0.2.1 (by rw [c_1_2690]; decide) (by rw [c_1_2690]; decide) (by rw [c_1_2690]; rfl) (by decide) ?_
    refine lv_aload_n hx hb gX11_many_1.2.1 rfl (lv_at0 hl) ?_
    refine gf_X11_15 hC rfl hK hP 0 rfl rfl gX11_many_1.2.2.1 ?_
    refine gf_X11_144 hC rfl hK hP 13 rfl rfl gX11_many_1.2.2.2.1 ?_
    refine pV hC hK hl hP hD (c_T_count l G bpapers 12 6 bpapersc kbpapers) si_X11_174 [18] sm_18 fm_18 nd_18 rfl rfl rfl rfl rfl (Nat.le_of_ble_eq_true rfl) rm_10_1_1 ⟨by first | exact Nat.le_of_ble_eq_true rfl | exact Nat.zero_le _, by first | exact Nat.le_of_ble_eq_true rfl | exact Nat.zero_le _⟩ gX11_many_1.2.2.2.2.1 (Keqr ?_)
    refine toQ hQ0 ?_
    exact RI (v := nI kbpapers) hC hP hD hS [0, 1, 2, 3, 4, 5, 6, 7, 8, 9, 10, 11, 12, 13, 14, 15, 16, 17, 18, 19, 20, 21, 22, 23, 24, 25, 26, 27, 28, 29, 30, 31, 32, 33, 34, 35] (cl, fclm, ffi, fla, fml, fmm, fsl, fsm, r1, rc, rh, ffc, fsh) rfl rfl (by decide) (⟨trivial, hcl⟩) rfl gX11_many_1.2.2.2.2.2.1
  by_cases c_1_2693 : x1 = 3
  · refine lv_tableIn (tgt := 106) hx hb gX11_many_0.2.1 (by rw [c_1_2693]; decide) (by rw [c_1_2693]; decide) (by rw [c_1_2693]; rfl) (by decide) ?_
    refine lv_aload_n hx hb gX11_many_1.2.2.2.2.2.2.1 rfl (lv_at0 hl) ?_
    refine gf_X11_15 hC rfl hK hP 0 rfl rfl gX11_many_1.2.2.2.2.2.2.2.1 ?_
    refine pV hC hK hl hP hD (c_inView l G bb bpersons bpapers bstamps bversions blines bsteps bsayings bfindings bwarnings bquestions td vd vl gp bpapersc kbpapers fbpapers (hkbpapers)) si_X11_97 [13, 18, 19] sm_13_18_19 fm_13_18_19 nd_13_18_19 rfl rfl rfl rfl rfl (Nat.le_of_ble_eq_true rfl) rm_10_3_6 ⟨by first | exact Nat.le_of_ble_eq_true rfl | exact Nat.zero_le _, by first | exact Nat.le_of_ble_eq_true rfl | exact Nat.zero_le _⟩ gX11_many_1.2.2.2.2.2.2.2.2.1 (fun r2694 hr2694 => ?_)
    refine pS hC hK hl (c_bitCount l G r2694) si_X11_101 rfl rfl (Nat.le_of_ble_eq_true rfl) rm_10_1_1 ⟨by first | exact Nat.le_of_ble_eq_true rfl | exact Nat.zero_le _, by first | exact Nat.le_of_ble_eq_true rfl | exact Nat.zero_le _⟩ gX11_many_1.2.2.2.2.2.2.2.2.2 (fun r2695 hr2695 => ?_)
    refine toQ hQ0 ?_
    exact RI (v := r2695) hC hP hD hS [0, 1, 2, 3, 4, 5, 6, 7, 8, 9, 10, 11, 12, 13, 14, 15, 16, 17, 18, 19, 20, 21, 22, 23, 24, 25, 26, 27, 28, 29, 30, 31, 32, 33, 34, 35] (cl, fclm, ffi, fla, fml, fmm, fsl, fsm, r1, rc, rh, ffc, fsh) rfl rfl (by decide) (⟨trivial, hcl⟩) rfl gX11_many_2.1
  by_cases c_1_2696 : x1 = 4
  · refine lv_tableIn (tgt := 117) hx hb gX11_many_0.2.1 (by rw [c_1_2696]; decide) (by rw [c_1_2696]; decide) (by rw [c_1_2696]; rfl) (by decide) ?_
    refine lv_aload_n hx hb gX11_many_2.2.1 rfl (lv_at0 hl) ?_
    refine gf_X11_15 hC rfl hK hP 0 rfl rfl gX11_many_2.2.2.1 ?_
    refine gf_X11_157 hC rfl hK hP 13 rfl rfl gX11_many_2.2.2.2.1 ?_
    refine pV hC hK hl hP hD (c_T_count l G bstamps 24 3 bstampsc kbstamps) si_X11_174 [24] sm_24 fm_24 nd_24 rfl rfl rfl rfl rfl (Nat.le_of_ble_eq_true rfl) rm_10_1_1 ⟨by first | exact Nat.le_of_ble_eq_true rfl | exact Nat.zero_le _, by first | exact Nat.le_of_ble_eq_true rfl | exact Nat.zero_le _⟩ gX11_many_2.2.2.2.2.1 (Keqr ?_)
    refine toQ hQ0 ?_
    exact RI (v := nI kbstamps) hC hP hD hS [0, 1, 2, 3, 4, 5, 6, 7, 8, 9, 10, 11, 12, 13, 14, 15, 16, 17, 18, 19, 20, 21, 22, 23, 24, 25, 26, 27, 28, 29, 30, 31, 32, 33, 34, 35] (cl, fclm, ffi, fla, fml, fmm, fsl, fsm, r1, rc, rh, ffc, fsh) rfl rfl (by decide) (⟨trivial, hcl⟩) rfl gX11_many_2.2.2.2.2.2.1
  by_cases c_1_2699 : x1 = 5
  · refine lv_tableIn (tgt := 128) hx hb gX11_many_0.2.1 (by rw [c_1_2699]; decide) (by rw [c_1_2699]; decide) (by rw [c_1_2699]; rfl) (by decide) ?_
    refine lv_aload_n hx hb gX11_many_2.2.2.2.2.2.2.1 rfl (lv_at0 hl) ?_
    refine gf_X11_15 hC rfl hK hP 0 rfl rfl gX11_many_2.2.2.2.2.2.2.2.1 ?_
    refine gf_X11_233 hC rfl hK hP 13 rfl rfl gX11_many_2.2.2.2.2.2.2.2.2.1 ?_
    refine pV hC hK hl hP hD (c_T_count l G bversions 8 3 bversionsc kbversions) si_X11_174 [14] sm_14 fm_14 nd_14 rfl rfl rfl rfl rfl (Nat.le_of_ble_eq_true rfl) rm_10_1_1 ⟨by first | exact Nat.le_of_ble_eq_true rfl | exact Nat.zero_le _, by first | exact Nat.le_of_ble_eq_true rfl | exact Nat.zero_le _⟩ gX11_many_2.2.2.2.2.2.2.2.2.2 (Keqr ?_)
    refine toQ hQ0 ?_
    exact RI (v := nI kbversions) hC hP hD hS [0, 1, 2, 3, 4, 5, 6, 7, 8, 9, 10, 11, 12, 13, 14, 15, 16, 17, 18, 19, 20, 21, 22, 23, 24, 25, 26, 27, 28, 29, 30, 31, 32, 33, 34, 35] (cl, fclm, ffi, fla, fml, fmm, fsl, fsm, r1, rc, rh, ffc, fsh) rfl rfl (by decide) (⟨trivial, hcl⟩) rfl gX11_many_3.1
  by_cases c_1_2702 : x1 = 6
  · refine lv_tableIn (tgt := 139) hx hb gX11_many_0.2.1 (by rw [c_1_2702]; decide) (by rw [c_1_2702]; decide) (by rw [c_1_2702]; rfl) (by decide) ?_
    refine lv_aload_n hx hb gX11_many_3.2.1 rfl (lv_at0 hl) ?_
    refine gf_X11_15 hC rfl hK hP 0 rfl rfl gX11_many_3.2.2.1 ?_
    refine gf_X11_256 hC rfl hK hP 13 rfl rfl gX11_many_3.2.2.2.1 ?_
    refine pV hC hK hl hP hD (c_T_count l G bsayings 16 8 bsayingsc kbsayings) si_X11_174 [28] sm_28 fm_28 nd_28 rfl rfl rfl rfl rfl (Nat.le_of_ble_eq_true rfl) rm_10_1_1 ⟨by first | exact Nat.le_of_ble_eq_true rfl | exact Nat.zero_le _, by first | exact Nat.le_of_ble_eq_true rfl | exact Nat.zero_le _⟩ gX11_many_3.2.2.2.2.1 (Keqr ?_)
    refine toQ hQ0 ?_
    exact RI (v := nI kbsayings) hC hP hD hS [0, 1, 2, 3, 4, 5, 6, 7, 8, 9, 10, 11, 12, 13, 14, 15, 16, 17, 18, 19, 20, 21, 22, 23, 24, 25, 26, 27, 28, 29, 30, 31, 32, 33, 34, 35] (cl, fclm, ffi, fla, fml, fmm, fsl, fsm, r1, rc, rh, ffc, fsh) rfl rfl (by decide) (⟨trivial, hcl⟩) rfl gX11_many_3.2.2.2.2.2.1
  by_cases c_1_2705 : x1 = 7
  · refine lv_tableIn (tgt := 150) hx hb gX11_many_0.2.1 (by rw [c_1_2705]; decide) (by rw [c_1_2705]; decide) (by rw [c_1_2705]; rfl) (by decide) ?_
    refine lv_aload_n hx hb gX11_many_3.2.2.2.2.2.2.1 rfl (lv_at0 hl) ?_
    refine gf_X11_15 hC rfl hK hP 0 rfl rfl gX11_many_3.2.2.2.2.2.2.2.1 ?_
    refine lv_aload_n hx hb gX11_many_3.2.2.2.2.2.2.2.2.1 rfl (lv_at0 hl) ?_
    refine gf_X11_15 hC rfl hK hP 0 rfl rfl gX11_many_3.2.2.2.2.2.2.2.2.2 ?_
    refine pV hC hK hl hP hD (c_inView l G bb bpersons bpapers bstamps bversions blines bsteps bsayings bfindings bwarnings bquestions td vd vl gp bpapersc kbpapers fbpapers (hkbpapers)) si_X11_97 [13, 18, 19] sm_13_18_19 fm_13_18_19 nd_13_18_19 rfl rfl rfl rfl rfl (Nat.le_of_ble_eq_true rfl) rm_10_3_6 ⟨by first | exact Nat.le_of_ble_eq_true rfl | exact Nat.zero_le _, by first | exact Nat.le_of_ble_eq_true rfl | exact Nat.zero_le _⟩ gX11_many_4.1 (fun r2706 hr2706 => ?_)
    refine pV hC hK hl hP hD (c_countSayings l G bb r2706 bpersons bpapers bstamps bversions blines bsteps bsayings bfindings bwarnings bquestions td vd vl gp bsayingsc kbsayings fbsayings (hkbsayings)) si_X11_355 [13, 28, 29] sm_13_28_29 fm_13_28_29 nd_13_28_29 rfl rfl rfl rfl rfl (Nat.le_of_ble_eq_true rfl) rm_10_4_4 ⟨by first | exact Nat.le_of_ble_eq_true rfl | exact Nat.zero_le _, by first | exact Nat.le_of_ble_eq_true rfl | exact Nat.zero_le _⟩ gX11_many_4.2.1 (fun r2707 hr2707 => ?_)
    refine toQ hQ0 ?_
    exact RI (v := r2707) hC hP hD hS [0, 1, 2, 3, 4, 5, 6, 7, 8, 9, 10, 11, 12, 13, 14, 15, 16, 17, 18, 19, 20, 21, 22, 23, 24, 25, 26, 27, 28, 29, 30, 31, 32, 33, 34, 35] (cl, fclm, ffi, fla, fml, fmm, fsl, fsm, r1, rc, rh, ffc, fsh) rfl rfl (by decide) (⟨trivial, hcl⟩) rfl gX11_many_4.2.2.1
  by_cases c_1_2708 : x1 = 8
  · refine lv_tableIn (tgt := 165) hx hb gX11_many_0.2.1 (by rw [c_1_2708]; decide) (by rw [c_1_2708]; decide) (by rw [c_1_2708]; rfl) (by decide) ?_
    refine lv_aload_n hx hb gX11_many_4.2.2.2.1 rfl (lv_at0 hl) ?_
    refine gf_X11_15 hC rfl hK hP 0 rfl rfl gX11_many_4.2.2.2.2.1 ?_
    refine gf_X11_271 hC rfl hK hP 13 rfl rfl gX11_many_4.2.2.2.2.2.1 ?_
    refine pV hC hK hl hP hD (c_T_count l G bfindings 12 4 bfindingsc kbfindings) si_X11_174 [26] sm_26 fm_26 nd_26 rfl rfl rfl rfl rfl (Nat.le_of_ble_eq_true rfl) rm_10_1_1 ⟨by first | exact Nat.le_of_ble_eq_true rfl | exact Nat.zero_le _, by first | exact Nat.le_of_ble_eq_true rfl | exact Nat.zero_le _⟩ gX11_many_4.2.2.2.2.2.2.1 (Keqr ?_)
    refine toQ hQ0 ?_
    exact RI (v := nI kbfindings) hC hP hD hS [0, 1, 2, 3, 4, 5, 6, 7, 8, 9, 10, 11, 12, 13, 14, 15, 16, 17, 18, 19, 20, 21, 22, 23, 24, 25, 26, 27, 28, 29, 30, 31, 32, 33, 34, 35] (cl, fclm, ffi, fla, fml, fmm, fsl, fsm, r1, rc, rh, ffc, fsh) rfl rfl (by decide) (⟨trivial, hcl⟩) rfl gX11_many_4.2.2.2.2.2.2.2.1
  by_cases c_1_2711 : x1 = 9
  · refine lv_tableIn (tgt := 176) hx hb gX11_many_0.2.1 (by rw [c_1_2711]; decide) (by rw [c_1_2711]; decide) (by rw [c_1_2711]; rfl) (by decide) ?_
    refine lv_aload_n hx hb gX11_many_4.2.2.2.2.2.2.2.2.1 rfl (lv_at0 hl) ?_
    refine lv_aload_n hx hb gX11_many_4.2.2.2.2.2.2.2.2.2 rfl (lv_at0 hl) ?_
    refine gf_X11_15 hC rfl hK hP 0 rfl rfl gX11_many_5.1 ?_
    refine pV hC hK hl hP hD (c_inView l G bb bpersons bpapers bstamps bversions blines bsteps bsayings bfindings bwarnings bquestions td vd vl gp bpapersc kbpapers fbpapers (hkbpapers)) si_X11_97 [13, 18, 19] sm_13_18_19 fm_13_18_19 nd_13_18_19 rfl rfl rfl rfl rfl (Nat.le_of_ble_eq_true rfl) rm_10_3_6 ⟨by first | exact Nat.le_of_ble_eq_true rfl | exact Nat.zero_le _, by first | exact Nat.le_of_ble_eq_true rfl | exact Nat.zero_le _⟩ gX11_many_5.2.1 (fun r2712 hr2712 => ?_)
    refine iV (wr := [(bsayings, oX8 16 8 bsayingsc (nI kbsayings)), (bsayingsc, iA G 128 fbsayings), (bwarnings, oX8 16 3 bwarningsc (nI kbwarnings)), (bquestions, oX8 7 2 bquestionsc (nI kbquestions)), (ro9, oX5 bb rr tc asd st9 tol), (rr, oX8 7 2 rrc (nI kr)), (tp9, oX10 tby (nI kt) tln tsp tkd ts9 tn9 tf9), (de9, oX2 bb tr9 (nI jr) dk dn dp da dq)]) hC hK hl hP hD hS hA (c_countStanding l G h0 r2712 bb kk ikp sg do9 ru9 ta9 tp9 ro9 ho9 de9 clk fi la ml mm sl sm cl clm fclm ffi fla fml fmm fsl fsm fc sh r1 rc rh ffc fsh bpersons bpapers bstamps bversions blines bsteps bsayings bfindings bwarnings bquestions td vd vl gp bversionsc kbversions fbversions bpersonsc kbpersons fbpersons bpapersc kbpapers fbpapers blinesc kblines fblines bstepsc kbsteps fbsteps bstampsc kbstamps fbstamps bfindingsc kbfindings fbfindings (hkbversions) (hkbpersons) (hkbpapers) (hkblines) (hkbsteps) (hkbstamps) (hkbfindings) (hcl)) si_X11_358 [0, 1, 2, 3, 4, 5, 6, 7, 8, 9, 10, 11, 12, 13, 14, 15, 16, 17, 18, 19, 20, 21, 22, 23, 24, 25, 26, 27] [28, 29, 30, 31, 32, 33, 34, 35] sm_0_1_2_3_4_5_6_7_8_9_10_11_12_13_14_15_16_17_18_19_20_21_22_23_24_25_26_27 fm_0_1_2_3_4_5_6_7_8_9_10_11_12_13_14_15_16_17_18_19_20_21_22_23_24_25_26_27 nd_0_1_2_3_4_5_6_7_8_9_10_11_12_13_14_15_16_17_18_19_20_21_22_23_24_25_26_27 sm_28_29_30_31_32_33_34_35 nd_28_29_30_31_32_33_34_35 dj_0_1_2_3_4_5_6_7_8_9_10_11_12_13_14_15_16_17_18_19_20_21_22_23_24_25_26_27__28_29_30_31_32_33_34_35 rfl rfl rfl rfl rfl (Nat.le_of_ble_eq_true rfl) rm_10_8_4 ⟨Nat.le_of_ble_eq_true rfl, Nat.le_of_ble_eq_true rfl⟩ gX11_many_5.2.2.1 (fun r2713 => Ktu13 fun cl12715 gclm2716 gfi2717 gla2718 gml2719 gmm2720 gsl2721 gsm2722 r112723 rc12724 rh12725 gfc2726 gsh2727 => ?_)
    intro H locs hr2713 hP hD hS
    try dsimp only at hr2713
    refine Kpdr (ws := [(bsayings, oX8 16 8 bsayingsc (nI kbsayings)), (bsayingsc, iA G 128 fbsayings), (bwarnings, oX8 16 3 bwarningsc (nI kbwarnings)), (bquestions, oX8 7 2 bquestionsc (nI kbquestions)), (ro9, oX5 bb rr tc asd st9 tol), (rr, oX8 7 2 rrc (nI kr)), (tp9, oX10 tby (nI kt) tln tsp tkd ts9 tn9 tf9), (de9, oX2 bb tr9 (nI jr) dk dn dp da dq), (h0, oX11 bb kk ikp sg do9 ru9 ta9 tp9 ro9 ho9 de9), (sg, oX7 bb clk fi la ml mm sl sm cl12715), (clk, oX1 clm), (clm, iA G 36 gclm2716), (fi, iA G 12 gfi2717), (la, iA G 12 gla2718), (ml, iA G 12 gml2719), (mm, iA G 12 gmm2720), (sl, iA G 12 gsl2721), (sm, iA G 12 gsm2722), (ru9, oX6 bb sg fc sh r112723 rc12724 rh12725), (fc, iA G 5 gfc2726), (sh, iA G 8 gsh2727), (bb, oX0 bpersons bpapers bstamps bversions blines bsteps bsayings bfindings bwarnings bquestions td vd vl gp), (bversions, oX8 8 3 bversionsc (nI kbversions)), (bversionsc, iA G 24 fbversions), (bpersons, oX8 10 2 bpersonsc (nI kbpersons)), (bpersonsc, iA G 20 fbpersons), (bpapers, oX8 12 6 bpapersc (nI kbpapers)), (bpapersc, iA G 72 fbpapers), (blines, oX8 72 7 blinesc (nI kblines)), (blinesc, iA G 504 fblines), (bsteps, oX8 960 1 bstepsc (nI kbsteps)), (bstepsc, iA G 960 fbsteps), (bstamps, oX8 24 3 bstampsc (nI kbstamps)), (bstampsc, iA G 72 fbstamps), (bfindings, oX8 12 4 bfindingsc (nI kbfindings)), (bfindingsc, iA G 48 fbfindings)]) hP hD (fun hP hD => ?_)
    obtain ⟨hr2713, w2728⟩ := hr2713
    refine toQ hQ0 ?_
    exact RI (v := r2713) hC hP hD hS [8, 9, 10, 11, 12, 13, 14, 15, 16, 17, 18, 19, 20, 21, 22, 23, 24, 25, 26, 27, 28, 29, 30, 31, 32, 33, 34, 35, 0, 1, 2, 3, 4, 5, 6, 7] (cl12715, gclm2716, gfi2717, gla2718, gml2719, gmm2720, gsl2721, gsm2722, r112723, rc12724, rh12725, gfc2726, gsh2727) rfl rfl (by decide) (⟨trivial, w2728⟩) rfl gX11_many_5.2.2.2.1
  by_cases c_1_2729 : x1 = 10
  · refine lv_tableIn (tgt := 188) hx hb gX11_many_0.2.1 (by rw [c_1_2729]; decide) (by rw [c_1_2729]; decide) (by rw [c_1_2729]; rfl) (by decide) ?_
    refine lv_aload_n hx hb gX11_many_5.2.2.2.2.1 rfl (lv_at0 hl) ?_
    refine gf_X11_15 hC rfl hK hP 0 rfl rfl gX11_many_5.2.2.2.2.2.1 ?_
    refine gf_X11_283 hC rfl hK hP 13 rfl rfl gX11_many_5.2.2.2.2.2.2.1 ?_
    refine pV hC hK hl hP hD (c_T_count l G bwarnings 16 3 bwarningsc kbwarnings) si_X11_174 [30] sm_30 fm_30 nd_30 rfl rfl rfl rfl rfl (Nat.le_of_ble_eq_true rfl) rm_10_1_1 ⟨by first | exact Nat.le_of_ble_eq_true rfl | exact Nat.zero_le _, by first | exact Nat.le_of_ble_eq_true rfl | exact Nat.zero_le _⟩ gX11_many_5.2.2.2.2.2.2.2.1 (Keqr ?_)
    refine toQ hQ0 ?_
    exact RI (v := nI kbwarnings) hC hP hD hS [0, 1, 2, 3, 4, 5, 6, 7, 8, 9, 10, 11, 12, 13, 14, 15, 16, 17, 18, 19, 20, 21, 22, 23, 24, 25, 26, 27, 28, 29, 30, 31, 32, 33, 34, 35] (cl, fclm, ffi, fla, fml, fmm, fsl, fsm, r1, rc, rh, ffc, fsh) rfl rfl (by decide) (⟨trivial, hcl⟩) rfl gX11_many_5.2.2.2.2.2.2.2.2.1
  by_cases c_1_2732 : x1 = 11
  · refine lv_tableIn (tgt := 199) hx hb gX11_many_0.2.1 (by rw [c_1_2732]; decide) (by rw [c_1_2732]; decide) (by rw [c_1_2732]; rfl) (by decide) ?_
    refine lv_aload_n hx hb gX11_many_5.2.2.2.2.2.2.2.2.2 rfl (lv_at0 hl) ?_
    refine gf_X11_15 hC rfl hK hP 0 rfl rfl gX11_many_6.1 ?_
    refine gf_X11_286 hC rfl hK hP 13 rfl rfl gX11_many_6.2.1 ?_
    refine pV hC hK hl hP hD (c_T_count l G bquestions 7 2 bquestionsc kbquestions) si_X11_174 [31] sm_31 fm_31 nd_31 rfl rfl rfl rfl rfl (Nat.le_of_ble_eq_true rfl) rm_10_1_1 ⟨by first | exact Nat.le_of_ble_eq_true rfl | exact Nat.zero_le _, by first | exact Nat.le_of_ble_eq_true rfl | exact Nat.zero_le _⟩ gX11_many_6.2.2.1 (Keqr ?_)
    refine toQ hQ0 ?_
    exact RI (v := nI kbquestions) hC hP hD hS [0, 1, 2, 3, 4, 5, 6, 7, 8, 9, 10, 11, 12, 13, 14, 15, 16, 17, 18, 19, 20, 21, 22, 23, 24, 25, 26, 27, 28, 29, 30, 31, 32, 33, 34, 35] (cl, fclm, ffi, fla, fml, fmm, fsl, fsm, r1, rc, rh, ffc, fsh) rfl rfl (by decide) (⟨trivial, hcl⟩) rfl gX11_many_6.2.2.2.1
  by_cases c_1_2735 : x1 = 12
  · refine lv_tableIn (tgt := 210) hx hb gX11_many_0.2.1 (by rw [c_1_2735]; decide) (by rw [c_1_2735]; decide) (by rw [c_1_2735]; rfl) (by decide) ?_
    refine lv_aload_n hx hb gX11_many_6.2.2.2.2.1 rfl (lv_at0 hl) ?_
    refine gf_X11_65 hC rfl hK hP 0 rfl rfl gX11_many_6.2.2.2.2.2.1 ?_
    refine gf_X11_292 hC rfl hK hP 32 rfl rfl gX11_many_6.2.2.2.2.2.2.1 ?_
    refine pV hC hK hl hP hD (c_T_count l G rr 7 2 rrc kr) si_X11_174 [33] sm_33 fm_33 nd_33 rfl rfl rfl rfl rfl (Nat.le_of_ble_eq_true rfl) rm_10_1_1 ⟨by first | exact Nat.le_of_ble_eq_true rfl | exact Nat.zero_le _, by first | exact Nat.le_of_ble_eq_true rfl | exact Nat.zero_le _⟩ gX11_many_6.2.2.2.2.2.2.2.1 (Keqr ?_)
    refine toQ hQ0 ?_
    exact RI (v := nI kr) hC hP hD hS [0, 1, 2, 3, 4, 5, 6, 7, 8, 9, 10, 11, 12, 13, 14, 15, 16, 17, 18, 19, 20, 21, 22, 23, 24, 25, 26, 27, 28, 29, 30, 31, 32, 33, 34, 35] (cl, fclm, ffi, fla, fml, fmm, fsl, fsm, r1, rc, rh, ffc, fsh) rfl rfl (by decide) (⟨trivial, hcl⟩) rfl gX11_many_6.2.2.2.2.2.2.2.2.1
  by_cases c_1_2738 : x1 = 13
  · refine lv_tableIn (tgt := 221) hx hb gX11_many_0.2.1 (by rw [c_1_2738]; decide) (by rw [c_1_2738]; decide) (by rw [c_1_2738]; rfl) (by decide) ?_
    refine lv_aload_n hx hb gX11_many_6.2.2.2.2.2.2.2.2.2 rfl (lv_at0 hl) ?_
    refine gf_X11_58 hC rfl hK hP 0 rfl rfl gX11_many_7.1 ?_
    refine pV hC hK hl hP hD (c_tcount l G tp9 tby kt tln tsp tkd ts9 tn9 tf9) si_X11_224 [34] sm_34 fm_34 nd_34 rfl rfl rfl rfl rfl (Nat.le_of_ble_eq_true rfl) rm_10_1_1 ⟨by first | exact Nat.le_of_ble_eq_true rfl | exact Nat.zero_le _, by first | exact Nat.le_of_ble_eq_true rfl | exact Nat.zero_le _⟩ gX11_many_7.2.1 (Keqr ?_)
    refine toQ hQ0 ?_
    exact RI (v := nI kt) hC hP hD hS [0, 1, 2, 3, 4, 5, 6, 7, 8, 9, 10, 11, 12, 13, 14, 15, 16, 17, 18, 19, 20, 21, 22, 23, 24, 25, 26, 27, 28, 29, 30, 31, 32, 33, 34, 35] (cl, fclm, ffi, fla, fml, fmm, fsl, fsm, r1, rc, rh, ffc, fsh) rfl rfl (by decide) (⟨trivial, hcl⟩) rfl gX11_many_7.2.2.1
  by_cases c_1_2741 : x1 = 14
  · refine lv_tableIn (tgt := 229) hx hb gX11_many_0.2.1 (by rw [c_1_2741]; decide) (by rw [c_1_2741]; decide) (by rw [c_1_2741]; rfl) (by decide) ?_
    refine lv_aload_n hx hb gX11_many_7.2.2.2.1 rfl (lv_at0 hl) ?_
    refine gf_X11_79 hC rfl hK hP 0 rfl rfl gX11_many_7.2.2.2.2.1 ?_
    refine pV hC hK hl hP hD (c_ran l G de9 bb tr9 jr dk dn dp da dq) si_X11_349 [35] sm_35 fm_35 nd_35 rfl rfl rfl rfl rfl (Nat.le_of_ble_eq_true rfl) rm_10_1_1 ⟨by first | exact Nat.le_of_ble_eq_true rfl | exact Nat.zero_le _, by first | exact Nat.le_of_ble_eq_true rfl | exact Nat.zero_le _⟩ gX11_many_7.2.2.2.2.2.1 (Keqr ?_)
    refine toQ hQ0 ?_
    exact RI (v := nI jr) hC hP hD hS [0, 1, 2, 3, 4, 5, 6, 7, 8, 9, 10, 11, 12, 13, 14, 15, 16, 17, 18, 19, 20, 21, 22, 23, 24, 25, 26, 27, 28, 29, 30, 31, 32, 33, 34, 35] (cl, fclm, ffi, fla, fml, fmm, fsl, fsm, r1, rc, rh, ffc, fsh) rfl rfl (by decide) (⟨trivial, hcl⟩) rfl gX11_many_7.2.2.2.2.2.2.1
  refine lv_tableOut (tgt := 237) hx hb gX11_many_0.2.1 (by have q9 := sw_0_14 (x := x1); simp only [c_1_2686, c_1_2687, c_1_2690, c_1_2693, c_1_2696, c_1_2699, c_1_2702, c_1_2705, c_1_2708, c_1_2711, c_1_2729, c_1_2732, c_1_2735, c_1_2738, c_1_2741, not_false_eq_true, true_implies] at q9; exact q9) (by decide) ?_
  refine lv_iconst (v := (-1)) hx hb gX11_many_7.2.2.2.2.2.2.2.1 (by decide) ?_
  refine toQ hQ0 ?_
  exact RI (v := (-1)) hC hP hD hS [0, 1, 2, 3, 4, 5, 6, 7, 8, 9, 10, 11, 12, 13, 14, 15, 16, 17, 18, 19, 20, 21, 22, 23, 24, 25, 26, 27, 28, 29, 30, 31, 32, 33, 34, 35] (cl, fclm, ffi, fla, fml, fmm, fsl, fsm, r1, rc, rh, ffc, fsh) rfl rfl (by decide) (⟨trivial, hcl⟩) rfl gX11_many_7.2.2.2.2.2.2.2.2
