section WR
variable {p : Program} {l : Launch} {e : Env} {R : Room} {s : State} {m : MethodId} {args : Array Value} {below : List Frame} {meth : Method} {c : Code} {H : Heap} {locs : List Loc} {cells slots : Nat} {Q : State → Prop}
variable {pc : Nat} {ls : Array Slot} {rest : List Value} {G : GG} {ws : va_W} {A : Nat → Prop} {y0 : MethodName} {b0 : ByteArray} {mL0 : Nat} {rt0 : Option FieldType} {a : Nat} {H0 : Heap}
end WR
/-- a letter, a digit -/
def LTR (x : Int32) : Prop := ¬ x < 97 ∧ ¬ 122 < x
def DGT (x : Int32) : Prop := ¬ x < 48 ∧ ¬ 57 < x
/-- the next place that isn't a blank -/
def SKE (bt : Nat → Int32) (n i j : Nat) : Prop := i ≤ j ∧ j ≤ n ∧ (∀ k, i ≤ k → k < j → bt k = 32) ∧ (j < n → ¬ bt j = 32)
theorem SKE.uq {bt : Nat → Int32} {n i j k : Nat} (h1 : SKE bt n i j) (h2 : SKE bt n i k) : j = k := by
  rcases Nat.lt_trichotomy j k with c | c | c
  · exact absurd (h2.2.2.1 j h1.1 c) (h1.2.2.2 (by have := h2.2.1; omega))
  · exact c
  · exact absurd (h1.2.2.1 k h2.1 c) (h2.2.2.2 (by have := h1.2.1; omega))
def SKF (bt : Nat → Int32) : Nat → Nat → Nat
  | 0, i => i
  | f + 1, i => if bt i = 32 then SKF bt f (i + 1) else i
theorem SKF.sp {bt : Nat → Int32} {n : Nat} : ∀ f i, i + f = n → SKE bt n i (SKF bt f i)
  | 0, i, h => ⟨Nat.le_refl _, by show i ≤ n; omega, fun k h1 h2 => by have h3 : k < i := h2; omega, fun h1 => by have h3 : i < n := h1; omega⟩
  | f + 1, i, h => by
    by_cases c : bt i = 32
    · have e : SKF bt (f + 1) i = SKF bt f (i + 1) := by show (if bt i = 32 then SKF bt f (i + 1) else i) = _; rw [if_pos c]
      rw [e]
      obtain ⟨h1, h2, h3, h4⟩ := SKF.sp (bt := bt) (n := n) f (i + 1) (by omega)
      refine ⟨by omega, h2, fun k h5 h6 => ?_, h4⟩
      by_cases d : k = i
      · rw [d]; exact c
      · exact h3 k (by omega) h6
    · have e : SKF bt (f + 1) i = i := by show (if bt i = 32 then SKF bt f (i + 1) else i) = _; rw [if_neg c]
      rw [e]
      exact ⟨Nat.le_refl _, by omega, fun k h1 h2 => by omega, fun _ => c⟩
def SK (bt : Nat → Int32) (n i : Nat) : Nat := SKF bt (n - i) i
theorem SK.sp {bt : Nat → Int32} {n i : Nat} (h : i ≤ n) : SKE bt n i (SK bt n i) := SKF.sp (n - i) i (by omega)
theorem SK.eq {bt : Nat → Int32} {n i j : Nat} (h : SKE bt n i j) : SK bt n i = j := (SK.sp (by have := h.1; have := h.2.1; omega)).uq h
/-- how far a row of such bytes goes -/
def RNE (bt : Nat → Int32) (P : Int32 → Prop) (n i j : Nat) : Prop := i ≤ j ∧ j ≤ n ∧ (∀ k, i ≤ k → k < j → P (bt k)) ∧ (j < n → ¬ P (bt j))
theorem RNE.uq {bt : Nat → Int32} {P : Int32 → Prop} {n i j k : Nat} (h1 : RNE bt P n i j) (h2 : RNE bt P n i k) : j = k := by
  rcases Nat.lt_trichotomy j k with c | c | c
  · exact absurd (h2.2.2.1 j h1.1 c) (h1.2.2.2 (by have := h2.2.1; omega))
  · exact c
  · exact absurd (h1.2.2.1 k h2.1 c) (h2.2.2.2 (by have := h1.2.1; omega))
noncomputable def RNF (bt : Nat → Int32) (P : Int32 → Prop) : Nat → Nat → Nat
  | 0, i => i
  | f + 1, i => by
    classical
    exact if P (bt i) then RNF bt P f (i + 1) else i
theorem RNF.y {bt : Nat → Int32} {P : Int32 → Prop} {f i : Nat} (h : P (bt i)) : RNF bt P (f + 1) i = RNF bt P f (i + 1) := by
  show @ite Nat (P (bt i)) (Classical.propDecidable _) (RNF bt P f (i + 1)) i = _
  rw [if_pos h]
theorem RNF.n {bt : Nat → Int32} {P : Int32 → Prop} {f i : Nat} (h : ¬ P (bt i)) : RNF bt P (f + 1) i = i := by
  show @ite Nat (P (bt i)) (Classical.propDecidable _) (RNF bt P f (i + 1)) i = _
  rw [if_neg h]
theorem RNF.sp {bt : Nat → Int32} {P : Int32 → Prop} {n : Nat} : ∀ f i, i + f = n → RNE bt P n i (RNF bt P f i)
  | 0, i, h => ⟨Nat.le_refl _, by show i ≤ n; omega, fun k h1 h2 => by have h3 : k < i := h2; omega, fun h1 => by have h3 : i < n := h1; omega⟩
  | f + 1, i, h => by
    by_cases c : P (bt i)
    · rw [RNF.y c]
      obtain ⟨h1, h2, h3, h4⟩ := RNF.sp (bt := bt) (P := P) (n := n) f (i + 1) (by omega)
      refine ⟨by omega, h2, fun k h5 h6 => ?_, h4⟩
      by_cases d : k = i
      · rw [d]; exact c
      · exact h3 k (by omega) h6
    · rw [RNF.n c]
      exact ⟨Nat.le_refl _, by omega, fun k h1 h2 => by omega, fun _ => c⟩
noncomputable def RN (bt : Nat → Int32) (P : Int32 → Prop) (n i : Nat) : Nat := RNF bt P (n - i) i
theorem RN.sp {bt : Nat → Int32} {P : Int32 → Prop} {n i : Nat} (h : i ≤ n) : RNE bt P n i (RN bt P n i) := RNF.sp (n - i) i (by omega)
theorem RN.eq {bt : Nat → Int32} {P : Int32 → Prop} {n i j : Nat} (h : RNE bt P n i j) : RN bt P n i = j := (RN.sp (by have := h.1; have := h.2.1; omega)).uq h
/-- the sort of the token that begins at s: 0 the end, 1 a name, 2 a number, 3 another byte -/
noncomputable def TKN (bt : Nat → Int32) (n s : Nat) : Nat := by
  classical
  exact if s < n then (if LTR (bt s) then 1 else if DGT (bt s) then 2 else 3) else 0
theorem TKN.e0 {bt : Nat → Int32} {n s : Nat} (h : ¬ s < n) : TKN bt n s = 0 := by unfold TKN; rw [if_neg h]
theorem TKN.e1 {bt : Nat → Int32} {n s : Nat} (h : s < n) (h1 : LTR (bt s)) : TKN bt n s = 1 := by unfold TKN; rw [if_pos h, if_pos h1]
theorem TKN.e2 {bt : Nat → Int32} {n s : Nat} (h : s < n) (h1 : ¬ LTR (bt s)) (h2 : DGT (bt s)) : TKN bt n s = 2 := by unfold TKN; rw [if_pos h, if_neg h1, if_pos h2]
theorem TKN.e3 {bt : Nat → Int32} {n s : Nat} (h : s < n) (h1 : ¬ LTR (bt s)) (h2 : ¬ DGT (bt s)) : TKN bt n s = 3 := by unfold TKN; rw [if_pos h, if_neg h1, if_neg h2]
theorem TKN.cases (bt : Nat → Int32) (n s : Nat) : (¬ s < n ∧ TKN bt n s = 0) ∨ (s < n ∧ LTR (bt s) ∧ TKN bt n s = 1) ∨ (s < n ∧ ¬ LTR (bt s) ∧ DGT (bt s) ∧ TKN bt n s = 2) ∨ (s < n ∧ ¬ LTR (bt s) ∧ ¬ DGT (bt s) ∧ TKN bt n s = 3) := by
  by_cases c : s < n
  · by_cases d : LTR (bt s)
    · exact Or.inr (Or.inl ⟨c, d, TKN.e1 c d⟩)
    · by_cases e : DGT (bt s)
      · exact Or.inr (Or.inr (Or.inl ⟨c, d, e, TKN.e2 c d e⟩))
      · exact Or.inr (Or.inr (Or.inr ⟨c, d, e, TKN.e3 c d e⟩))
  · exact Or.inl ⟨c, TKN.e0 c⟩
/-- where it ends -/
noncomputable def TKE (bt : Nat → Int32) (n s : Nat) : Nat := if TKN bt n s = 0 then s else if TKN bt n s = 1 then RN bt LTR n s else if TKN bt n s = 2 then RN bt DGT n s else s + 1
theorem TKE.e0 {bt : Nat → Int32} {n s : Nat} (h : TKN bt n s = 0) : TKE bt n s = s := by unfold TKE; rw [if_pos h]
theorem TKE.e1 {bt : Nat → Int32} {n s : Nat} (h : TKN bt n s = 1) : TKE bt n s = RN bt LTR n s := by unfold TKE; rw [h]; rfl
theorem TKE.e2 {bt : Nat → Int32} {n s : Nat} (h : TKN bt n s = 2) : TKE bt n s = RN bt DGT n s := by unfold TKE; rw [h]; rfl
theorem TKE.e3 {bt : Nat → Int32} {n s : Nat} (h : TKN bt n s = 3) : TKE bt n s = s + 1 := by unfold TKE; rw [h]; rfl
theorem TKE.ge {bt : Nat → Int32} {n s : Nat} (hs : s ≤ n) : s ≤ TKE bt n s ∧ TKE bt n s ≤ n ∧ (¬ TKN bt n s = 0 → s < TKE bt n s) := by
  rcases TKN.cases bt n s with ⟨h1, h⟩ | ⟨h1, h2, h⟩ | ⟨h1, h2, h3, h⟩ | ⟨h1, h2, h3, h⟩
  · rw [TKE.e0 h]; exact ⟨Nat.le_refl _, hs, fun h9 => absurd h h9⟩
  · rw [TKE.e1 h]
    obtain ⟨q1, q2, q3, q4⟩ := RN.sp (bt := bt) (P := LTR) (n := n) (i := s) hs
    refine ⟨q1, q2, fun _ => ?_⟩
    rcases Nat.lt_or_ge s (RN bt LTR n s) with c | c
    · exact c
    · have e : RN bt LTR n s = s := by omega
      rw [e] at q4
      exact absurd h2 (q4 h1)
  · rw [TKE.e2 h]
    obtain ⟨q1, q2, q3, q4⟩ := RN.sp (bt := bt) (P := DGT) (n := n) (i := s) hs
    refine ⟨q1, q2, fun _ => ?_⟩
    rcases Nat.lt_or_ge s (RN bt DGT n s) with c | c
    · exact c
    · have e : RN bt DGT n s = s := by omega
      rw [e] at q4
      exact absurd h3 (q4 h1)
  · rw [TKE.e3 h]; exact ⟨by omega, by omega, fun _ => by omega⟩
/-- the token behind the one at s -/
noncomputable def NXT (bt : Nat → Int32) (n s : Nat) : Nat := SK bt n (TKE bt n s)
theorem NXT.ge {bt : Nat → Int32} {n s : Nat} (hs : s ≤ n) : TKE bt n s ≤ NXT bt n s ∧ NXT bt n s ≤ n := by
  have h := SK.sp (bt := bt) (TKE.ge (bt := bt) hs).2.1
  exact ⟨h.1, h.2.1⟩
theorem NXT.gt {bt : Nat → Int32} {n s : Nat} (hs : s ≤ n) (h : ¬ TKN bt n s = 0) : s < NXT bt n s := Nat.lt_of_lt_of_le ((TKE.ge (bt := bt) hs).2.2 h) (NXT.ge hs).1
/-- a word of those that the reader knows; another byte -/
def WRD (bt : Nat → Int32) (n s i : Nat) : Prop := TKN bt n s = 1 ∧ TKE bt n s = s + SLEN.getD i 0 ∧ ∀ k, k < SLEN.getD i 0 → bt (s + k) = (SBY.getD i []).getD k 0
def SGN (bt : Nat → Int32) (n s : Nat) (c : Int32) : Prop := TKN bt n s = 3 ∧ bt s = c
theorem wd_tab : ∀ i j : Fin 16, i ≠ j → SLEN.getD i.1 0 ≠ SLEN.getD j.1 0 ∨ ∃ k : Fin 6, k.1 < SLEN.getD i.1 0 ∧ (SBY.getD i.1 []).getD k.1 0 ≠ (SBY.getD j.1 []).getD k.1 0 := by decide +kernel
theorem WRD.uq {bt : Nat → Int32} {n s i j : Nat} (h1 : WRD bt n s i) (h2 : WRD bt n s j) (hi : i < 16) (hj : j < 16) : i = j := by
  by_cases e : i = j
  · exact e
  · have hl : SLEN.getD i 0 = SLEN.getD j 0 := by have a := h1.2.1; have b := h2.2.1; omega
    rcases wd_tab ⟨i, hi⟩ ⟨j, hj⟩ (fun h => e (congrArg Fin.val h)) with h | ⟨k, h3, h4⟩
    · exact absurd hl h
    · exact absurd ((h1.2.2 k.1 h3).symm.trans (h2.2.2 k.1 (by rw [← hl]; exact h3))) h4
theorem WRD.lt {bt : Nat → Int32} {n s i : Nat} (h : WRD bt n s i) : s < n := by
  rcases TKN.cases bt n s with ⟨h1, h2⟩ | ⟨h1, -⟩ | ⟨h1, -⟩ | ⟨h1, -⟩
  · have h3 := h.1
    omega
  · exact h1
  · exact h1
  · exact h1
theorem SGN.lt {bt : Nat → Int32} {n s : Nat} {c : Int32} (h : SGN bt n s c) : s < n := by
  rcases TKN.cases bt n s with ⟨h1, h2⟩ | ⟨h1, -⟩ | ⟨h1, -⟩ | ⟨h1, -⟩
  · have h3 := h.1
    omega
  · exact h1
  · exact h1
  · exact h1
theorem SGN.now {bt : Nat → Int32} {n s i : Nat} {c : Int32} (h : SGN bt n s c) : ¬ WRD bt n s i := fun h2 => by
  have h3 := h.1
  have h4 := h2.1
  omega
/-- a number's value -/
def VLF (bt : Nat → Int32) (s : Nat) : Nat → Nat
  | 0 => 0
  | k + 1 => 10 * VLF bt s k + ((bt (s + k)).toNatClampNeg - 48)
/-- the number at s, if there is one of at most three digits -/
noncomputable def NMO (bt : Nat → Int32) (n s : Nat) : Option Nat := if TKN bt n s = 2 ∧ TKE bt n s ≤ s + 3 then some (VLF bt s (TKE bt n s - s)) else none
theorem NMO.y {bt : Nat → Int32} {n s : Nat} (h1 : TKN bt n s = 2) (h2 : TKE bt n s ≤ s + 3) : NMO bt n s = some (VLF bt s (TKE bt n s - s)) := by unfold NMO; rw [if_pos ⟨h1, h2⟩]
theorem NMO.n {bt : Nat → Int32} {n s : Nat} (h : ¬ (TKN bt n s = 2 ∧ TKE bt n s ≤ s + 3)) : NMO bt n s = none := by unfold NMO; rw [if_neg h]
theorem DGT.v {x : Int32} (h : DGT x) : ∃ d, d ≤ 9 ∧ x = nI (48 + d) := by
  obtain ⟨h1, h2⟩ := h
  rw [Int32.lt_iff_toInt_lt] at h1 h2
  have e0 : (48 : Int32).toInt = 48 := by decide
  have e1 : (57 : Int32).toInt = 57 := by decide
  rw [e0] at h1
  rw [e1] at h2
  have h0 : ¬ x < 0 := by
    intro h9
    rw [Int32.lt_iff_toInt_lt] at h9
    have e : (0 : Int32).toInt = 0 := by decide
    omega
  obtain ⟨j, hj, rfl⟩ := nI_of h0
  rw [nI_toInt hj] at h1 h2
  exact ⟨j - 48, by omega, congrArg nI (by omega)⟩
/-- the fact, the sign, at s -/
noncomputable def FAC (bt : Nat → Int32) (n s : Nat) : Option Nat := by
  classical
  exact if WRD bt n s 11 then some 0 else if WRD bt n s 12 then some 1 else if WRD bt n s 13 then some 2 else if WRD bt n s 14 then some 3 else if WRD bt n s 15 then some 4 else none
theorem FAC.y {bt : Nat → Int32} {n s k : Nat} (hk : k < 5) (h : WRD bt n s (11 + k)) : FAC bt n s = some k := by
  have no : ∀ j, j < 5 → j ≠ k → ¬ WRD bt n s (11 + j) := fun j hj e h2 => e (by have := h2.uq h (by omega) (by omega); omega)
  unfold FAC
  rcases (show k = 0 ∨ k = 1 ∨ k = 2 ∨ k = 3 ∨ k = 4 by omega) with rfl | rfl | rfl | rfl | rfl
  · rw [if_pos h]
  · rw [if_neg (no 0 (by omega) (by omega)), if_pos h]
  · rw [if_neg (no 0 (by omega) (by omega)), if_neg (no 1 (by omega) (by omega)), if_pos h]
  · rw [if_neg (no 0 (by omega) (by omega)), if_neg (no 1 (by omega) (by omega)), if_neg (no 2 (by omega) (by omega)), if_pos h]
  · rw [if_neg (no 0 (by omega) (by omega)), if_neg (no 1 (by omega) (by omega)), if_neg (no 2 (by omega) (by omega)), if_neg (no 3 (by omega) (by omega)), if_pos h]
theorem FAC.n {bt : Nat → Int32} {n s : Nat} (h : ∀ k, k < 5 → ¬ WRD bt n s (11 + k)) : FAC bt n s = none := by
  unfold FAC
  rw [if_neg (h 0 (by omega)), if_neg (h 1 (by omega)), if_neg (h 2 (by omega)), if_neg (h 3 (by omega)), if_neg (h 4 (by omega))]
noncomputable def SIG (bt : Nat → Int32) (n s : Nat) : Option Nat := by
  classical
  exact if SGN bt n s 60 then some 0 else if SGN bt n s 61 then some 1 else if SGN bt n s 62 then some 2 else none
theorem SIG.e0 {bt : Nat → Int32} {n s : Nat} (h : SGN bt n s 60) : SIG bt n s = some 0 := by unfold SIG; rw [if_pos h]
theorem SIG.e1 {bt : Nat → Int32} {n s : Nat} (h0 : ¬ SGN bt n s 60) (h : SGN bt n s 61) : SIG bt n s = some 1 := by unfold SIG; rw [if_neg h0, if_pos h]
theorem SIG.e2 {bt : Nat → Int32} {n s : Nat} (h0 : ¬ SGN bt n s 60) (h1 : ¬ SGN bt n s 61) (h : SGN bt n s 62) : SIG bt n s = some 2 := by unfold SIG; rw [if_neg h0, if_neg h1, if_pos h]
theorem SIG.n {bt : Nat → Int32} {n s : Nat} (h0 : ¬ SGN bt n s 60) (h1 : ¬ SGN bt n s 61) (h : ¬ SGN bt n s 62) : SIG bt n s = none := by unfold SIG; rw [if_neg h0, if_neg h1, if_neg h]
/-- a comparison at s: whether there is one, where it is over or the fault, its number -/
noncomputable def CMP (bt : Nat → Int32) (n s : Nat) : Nat × Nat × Nat :=
  match FAC bt n s with
  | none => (0, s, 0)
  | some fa => match SIG bt n (NXT bt n s) with
    | none => (0, NXT bt n s, 0)
    | some sg => match NMO bt n (NXT bt n (NXT bt n s)) with
      | none => (0, NXT bt n (NXT bt n s), 0)
      | some v => (1, NXT bt n (NXT bt n (NXT bt n s)), (fa * 3 + sg) * 1000 + v)
theorem CMP.f1 {bt : Nat → Int32} {n s : Nat} (h : FAC bt n s = none) : CMP bt n s = (0, s, 0) := by unfold CMP; rw [h]
theorem CMP.f2 {bt : Nat → Int32} {n s fa : Nat} (h : FAC bt n s = some fa) (h2 : SIG bt n (NXT bt n s) = none) : CMP bt n s = (0, NXT bt n s, 0) := by unfold CMP; rw [h]; dsimp only; rw [h2]
theorem CMP.f3 {bt : Nat → Int32} {n s fa sg : Nat} (h : FAC bt n s = some fa) (h2 : SIG bt n (NXT bt n s) = some sg) (h3 : NMO bt n (NXT bt n (NXT bt n s)) = none) : CMP bt n s = (0, NXT bt n (NXT bt n s), 0) := by unfold CMP; rw [h]; dsimp only; rw [h2]; dsimp only; rw [h3]
theorem CMP.y {bt : Nat → Int32} {n s fa sg v : Nat} (h : FAC bt n s = some fa) (h2 : SIG bt n (NXT bt n s) = some sg) (h3 : NMO bt n (NXT bt n (NXT bt n s)) = some v) : CMP bt n s = (1, NXT bt n (NXT bt n (NXT bt n s)), (fa * 3 + sg) * 1000 + v) := by unfold CMP; rw [h]; dsimp only; rw [h2]; dsimp only; rw [h3]
/-- the nots behind an expression, as either side writes them -/
def NOC (k : Nat) : List Int32 := if k % 2 = 1 then [-1] else []
def NTR (k : Nat) : List Int32 := List.replicate k 30000
abbrev PRT : Type := Nat × Nat × List Int32 × List Int32
abbrev PRX : Type := Nat → Nat → Nat → Nat → List Int32 → List Int32 → PRT
/-- expressions: 1 where it is over and its steps, 0 the fault (2: not far enough); one expression behind k nots -/
noncomputable def PS0 (bt : Nat → Int32) (n : Nat) (X : PRX) (d k s : Nat) (cs rs : List Int32) : PRT := by
  classical
  exact if WRD bt n s 10 then X 0 d (k + 1) (NXT bt n s) cs rs
    else if SGN bt n s 40 then
      if 4 ≤ d then (0, s, [], [])
      else if (X 2 (d + 1) 0 (NXT bt n s) cs rs).1 = 1 then
        if SGN bt n (X 2 (d + 1) 0 (NXT bt n s) cs rs).2.1 41 then (1, NXT bt n (X 2 (d + 1) 0 (NXT bt n s) cs rs).2.1, (X 2 (d + 1) 0 (NXT bt n s) cs rs).2.2.1 ++ NOC k, (X 2 (d + 1) 0 (NXT bt n s) cs rs).2.2.2 ++ NTR k)
        else (0, (X 2 (d + 1) 0 (NXT bt n s) cs rs).2.1, [], [])
      else X 2 (d + 1) 0 (NXT bt n s) cs rs
    else if (CMP bt n s).1 = 1 then (1, (CMP bt n s).2.1, cs ++ nI (CMP bt n s).2.2 :: NOC k, rs ++ nI (CMP bt n s).2.2 :: NTR k)
    else (0, (CMP bt n s).2.1, [], [])
/-- one, and what follows it -/
noncomputable def PS1 (X : PRX) (a b d s : Nat) (cs rs : List Int32) : PRT := if (X a d 0 s cs rs).1 = 1 then X b d 0 (X a d 0 s cs rs).2.1 (X a d 0 s cs rs).2.2.1 (X a d 0 s cs rs).2.2.2 else X a d 0 s cs rs
/-- what follows it -/
noncomputable def PS3 (bt : Nat → Int32) (n : Nat) (X : PRX) (w a b : Nat) (u v : Int32) (d s : Nat) (cs rs : List Int32) : PRT := by
  classical
  exact if WRD bt n s w then
      if (X a d 0 (NXT bt n s) cs rs).1 = 1 then X b d 0 (X a d 0 (NXT bt n s) cs rs).2.1 ((X a d 0 (NXT bt n s) cs rs).2.2.1 ++ [u]) ((X a d 0 (NXT bt n s) cs rs).2.2.2 ++ [v])
      else X a d 0 (NXT bt n s) cs rs
    else (1, s, cs, rs)
noncomputable def PSt (bt : Nat → Int32) (n : Nat) (X : PRX) : PRX := fun mo d k s cs rs =>
  if mo = 0 then PS0 bt n X d k s cs rs else if mo = 1 then PS1 X 0 3 d s cs rs else if mo = 2 then PS1 X 1 4 d s cs rs else if mo = 3 then PS3 bt n X 9 0 3 (-2) 30001 d s cs rs else PS3 bt n X 8 1 4 (-3) 30002 d s cs rs
noncomputable def PX (bt : Nat → Int32) (n : Nat) : Nat → PRX
  | 0 => fun _ _ _ s _ _ => (2, s, [], [])
  | f + 1 => PSt bt n (PX bt n f)
def SBL (X Y : PRX) : Prop := ∀ mo d k s cs rs, ¬ (X mo d k s cs rs).1 = 2 → Y mo d k s cs rs = X mo d k s cs rs
theorem PS1.mono {X Y : PRX} (h : SBL X Y) {a b d s : Nat} {cs rs : List Int32} (hn : ¬ (PS1 X a b d s cs rs).1 = 2) : PS1 Y a b d s cs rs = PS1 X a b d s cs rs := by
  unfold PS1 at hn ⊢
  by_cases c : (X a d 0 s cs rs).1 = 1
  · rw [if_pos c] at hn
    rw [h a d 0 s cs rs (by rw [c]; decide), if_pos c, if_pos c]
    exact h _ _ _ _ _ _ hn
  · rw [if_neg c] at hn
    rw [h a d 0 s cs rs hn, if_neg c, if_neg c]
theorem PS3.mono {bt : Nat → Int32} {n : Nat} {X Y : PRX} (h : SBL X Y) {w a b d s : Nat} {u v : Int32} {cs rs : List Int32} (hn : ¬ (PS3 bt n X w a b u v d s cs rs).1 = 2) : PS3 bt n Y w a b u v d s cs rs = PS3 bt n X w a b u v d s cs rs := by
  unfold PS3 at hn ⊢
  by_cases e : WRD bt n s w
  · rw [if_pos e] at hn
    rw [if_pos e, if_pos e]
    by_cases c : (X a d 0 (NXT bt n s) cs rs).1 = 1
    · rw [if_pos c] at hn
      rw [h a d 0 (NXT bt n s) cs rs (by rw [c]; decide), if_pos c, if_pos c]
      exact h _ _ _ _ _ _ hn
    · rw [if_neg c] at hn
      rw [h a d 0 (NXT bt n s) cs rs hn, if_neg c, if_neg c]
  · rw [if_neg e, if_neg e]
theorem PS0.mono {bt : Nat → Int32} {n : Nat} {X Y : PRX} (h : SBL X Y) {d k s : Nat} {cs rs : List Int32} (hn : ¬ (PS0 bt n X d k s cs rs).1 = 2) : PS0 bt n Y d k s cs rs = PS0 bt n X d k s cs rs := by
  unfold PS0 at hn ⊢
  by_cases e : WRD bt n s 10
  · rw [if_pos e] at hn
    rw [if_pos e, if_pos e]
    exact h _ _ _ _ _ _ hn
  · rw [if_neg e] at hn
    rw [if_neg e, if_neg e]
    by_cases g : SGN bt n s 40
    · rw [if_pos g] at hn
      rw [if_pos g, if_pos g]
      by_cases q : 4 ≤ d
      · rw [if_pos q, if_pos q]
      · rw [if_neg q] at hn
        rw [if_neg q, if_neg q]
        by_cases c : (X 2 (d + 1) 0 (NXT bt n s) cs rs).1 = 1
        · rw [h 2 (d + 1) 0 (NXT bt n s) cs rs (by rw [c]; decide)]
        · rw [if_neg c] at hn
          rw [h 2 (d + 1) 0 (NXT bt n s) cs rs hn]
    · rw [if_neg g, if_neg g]
theorem PSt.mono {bt : Nat → Int32} {n : Nat} {X Y : PRX} (h : SBL X Y) : SBL (PSt bt n X) (PSt bt n Y) := by
  intro mo d k s cs rs hn
  unfold PSt at hn ⊢
  by_cases c0 : mo = 0
  · rw [if_pos c0] at hn
    rw [if_pos c0, if_pos c0]
    exact PS0.mono h hn
  rw [if_neg c0] at hn
  rw [if_neg c0, if_neg c0]
  by_cases c1 : mo = 1
  · rw [if_pos c1] at hn
    rw [if_pos c1, if_pos c1]
    exact PS1.mono h hn
  rw [if_neg c1] at hn
  rw [if_neg c1, if_neg c1]
  by_cases c2 : mo = 2
  · rw [if_pos c2] at hn
    rw [if_pos c2, if_pos c2]
    exact PS1.mono h hn
  rw [if_neg c2] at hn
  rw [if_neg c2, if_neg c2]
  by_cases c3 : mo = 3
  · rw [if_pos c3] at hn
    rw [if_pos c3, if_pos c3]
    exact PS3.mono h hn
  rw [if_neg c3] at hn
  rw [if_neg c3, if_neg c3]
  exact PS3.mono h hn
theorem PX.one {bt : Nat → Int32} {n : Nat} : ∀ f, SBL (PX bt n f) (PX bt n (f + 1))
  | 0 => fun _ _ _ _ _ _ h => absurd rfl h
  | f + 1 => PSt.mono (PX.one f)
theorem PX.le {bt : Nat → Int32} {n f : Nat} : ∀ g, SBL (PX bt n f) (PX bt n (f + g))
  | 0 => fun _ _ _ _ _ _ _ => rfl
  | g + 1 => fun mo d k s cs rs h => by
    have h1 := PX.le (bt := bt) (n := n) (f := f) g mo d k s cs rs h
    have h2 := PX.one (bt := bt) (n := n) (f + g) mo d k s cs rs (by rw [h1]; exact h)
    exact h2.trans h1
/-- what an expression comes to -/
def RT (bt : Nat → Int32) (n mo d k s : Nat) (cs rs : List Int32) (r : PRT) : Prop := ∃ f, PX bt n f mo d k s cs rs = r ∧ ¬ r.1 = 2
theorem RT.up {bt : Nat → Int32} {n mo d k s : Nat} {cs rs : List Int32} {r : PRT} (h : RT bt n mo d k s cs rs r) : ∃ f, ∀ g, f ≤ g → PX bt n g mo d k s cs rs = r := by
  obtain ⟨f, h1, h2⟩ := h
  refine ⟨f, fun g hg => ?_⟩
  obtain ⟨e, rfl⟩ : ∃ e, g = f + e := ⟨g - f, by omega⟩
  rw [PX.le e mo d k s cs rs (by rw [h1]; exact h2), h1]
theorem RT.uq {bt : Nat → Int32} {n mo d k s : Nat} {cs rs : List Int32} {r q : PRT} (h1 : RT bt n mo d k s cs rs r) (h2 : RT bt n mo d k s cs rs q) : r = q := by
  obtain ⟨f, hf⟩ := h1.up
  obtain ⟨g, hg⟩ := h2.up
  exact (hf (f + g) (by omega)).symm.trans (hg (f + g) (by omega))
section RTS
variable {bt : Nat → Int32} {n d k s s1 s2 p v : Nat} {cs rs c1 r1 c2 r2 : List Int32} {r : PRT}
theorem RT.not (h : WRD bt n s 10) (h2 : RT bt n 0 d (k + 1) (NXT bt n s) cs rs r) : RT bt n 0 d k s cs rs r := by
  obtain ⟨f, h3, h4⟩ := h2
  refine ⟨f + 1, ?_, h4⟩
  show PS0 bt n (PX bt n f) d k s cs rs = r
  unfold PS0
  rw [if_pos h, h3]
theorem RT.deep (h1 : SGN bt n s 40) (h4 : 4 ≤ d) : RT bt n 0 d k s cs rs (0, s, [], []) := by
  refine ⟨1, ?_, show ¬ (0 : Nat) = 2 by decide⟩
  show PS0 bt n (PX bt n 0) d k s cs rs = _
  unfold PS0
  rw [if_neg h1.now, if_pos h1, if_pos h4]
theorem RT.inF (h1 : SGN bt n s 40) (h4 : ¬ 4 ≤ d) (h2 : RT bt n 2 (d + 1) 0 (NXT bt n s) cs rs r) (hr : r.1 = 0) : RT bt n 0 d k s cs rs r := by
  obtain ⟨f, h3, h5⟩ := h2
  refine ⟨f + 1, ?_, h5⟩
  show PS0 bt n (PX bt n f) d k s cs rs = r
  unfold PS0
  rw [if_neg h1.now, if_pos h1, if_neg h4, h3, if_neg (by rw [hr]; decide)]
theorem RT.inU (h1 : SGN bt n s 40) (h4 : ¬ 4 ≤ d) (h2 : RT bt n 2 (d + 1) 0 (NXT bt n s) cs rs (1, s2, c2, r2)) (h6 : ¬ SGN bt n s2 41) : RT bt n 0 d k s cs rs (0, s2, [], []) := by
  obtain ⟨f, h3, h5⟩ := h2
  refine ⟨f + 1, ?_, show ¬ (0 : Nat) = 2 by decide⟩
  show PS0 bt n (PX bt n f) d k s cs rs = _
  unfold PS0
  rw [if_neg h1.now, if_pos h1, if_neg h4, h3, if_pos rfl, if_neg h6]
theorem RT.inO (h1 : SGN bt n s 40) (h4 : ¬ 4 ≤ d) (h2 : RT bt n 2 (d + 1) 0 (NXT bt n s) cs rs (1, s2, c2, r2)) (h6 : SGN bt n s2 41) : RT bt n 0 d k s cs rs (1, NXT bt n s2, c2 ++ NOC k, r2 ++ NTR k) := by
  obtain ⟨f, h3, h5⟩ := h2
  refine ⟨f + 1, ?_, show ¬ (1 : Nat) = 2 by decide⟩
  show PS0 bt n (PX bt n f) d k s cs rs = _
  unfold PS0
  rw [if_neg h1.now, if_pos h1, if_neg h4, h3, if_pos rfl, if_pos h6]
theorem RT.cmpF (h : ¬ WRD bt n s 10) (h1 : ¬ SGN bt n s 40) (h2 : CMP bt n s = (0, p, v)) : RT bt n 0 d k s cs rs (0, p, [], []) := by
  refine ⟨1, ?_, show ¬ (0 : Nat) = 2 by decide⟩
  show PS0 bt n (PX bt n 0) d k s cs rs = _
  unfold PS0
  rw [if_neg h, if_neg h1, h2, if_neg (show ¬ (0 : Nat) = 1 by decide)]
theorem RT.cmpO (h : ¬ WRD bt n s 10) (h1 : ¬ SGN bt n s 40) (h2 : CMP bt n s = (1, p, v)) : RT bt n 0 d k s cs rs (1, p, cs ++ nI v :: NOC k, rs ++ nI v :: NTR k) := by
  refine ⟨1, ?_, show ¬ (1 : Nat) = 2 by decide⟩
  show PS0 bt n (PX bt n 0) d k s cs rs = _
  unfold PS0
  rw [if_neg h, if_neg h1, h2, if_pos rfl]
theorem RT.allF (h : RT bt n 0 d 0 s cs rs r) (hr : r.1 = 0) : RT bt n 1 d 0 s cs rs r := by
  obtain ⟨f, h3, h5⟩ := h
  refine ⟨f + 1, ?_, h5⟩
  show PS1 (PX bt n f) 0 3 d s cs rs = r
  unfold PS1
  rw [h3, if_neg (by rw [hr]; decide)]
theorem RT.allG (h : RT bt n 0 d 0 s cs rs (1, s1, c1, r1)) (h2 : RT bt n 3 d 0 s1 c1 r1 r) : RT bt n 1 d 0 s cs rs r := by
  obtain ⟨f, hf⟩ := h.up
  obtain ⟨g, hg⟩ := h2.up
  refine ⟨f + g + 1, ?_, h2.elim fun _ h9 => h9.2⟩
  show PS1 (PX bt n (f + g)) 0 3 d s cs rs = r
  unfold PS1
  rw [hf (f + g) (by omega), if_pos rfl]
  exact hg (f + g) (by omega)
theorem RT.conF (h : RT bt n 1 d 0 s cs rs r) (hr : r.1 = 0) : RT bt n 2 d 0 s cs rs r := by
  obtain ⟨f, h3, h5⟩ := h
  refine ⟨f + 1, ?_, h5⟩
  show PS1 (PX bt n f) 1 4 d s cs rs = r
  unfold PS1
  rw [h3, if_neg (by rw [hr]; decide)]
theorem RT.conG (h : RT bt n 1 d 0 s cs rs (1, s1, c1, r1)) (h2 : RT bt n 4 d 0 s1 c1 r1 r) : RT bt n 2 d 0 s cs rs r := by
  obtain ⟨f, hf⟩ := h.up
  obtain ⟨g, hg⟩ := h2.up
  refine ⟨f + g + 1, ?_, h2.elim fun _ h9 => h9.2⟩
  show PS1 (PX bt n (f + g)) 1 4 d s cs rs = r
  unfold PS1
  rw [hf (f + g) (by omega), if_pos rfl]
  exact hg (f + g) (by omega)
theorem RT.andE (h : ¬ WRD bt n s 9) : RT bt n 3 d 0 s cs rs (1, s, cs, rs) := by
  refine ⟨1, ?_, show ¬ (1 : Nat) = 2 by decide⟩
  show PS3 bt n (PX bt n 0) 9 0 3 (-2) 30001 d s cs rs = _
  unfold PS3
  rw [if_neg h]
theorem RT.andF (h : WRD bt n s 9) (h2 : RT bt n 0 d 0 (NXT bt n s) cs rs r) (hr : r.1 = 0) : RT bt n 3 d 0 s cs rs r := by
  obtain ⟨f, h3, h5⟩ := h2
  refine ⟨f + 1, ?_, h5⟩
  show PS3 bt n (PX bt n f) 9 0 3 (-2) 30001 d s cs rs = r
  unfold PS3
  rw [if_pos h, h3, if_neg (by rw [hr]; decide)]
theorem RT.andG (h : WRD bt n s 9) (h2 : RT bt n 0 d 0 (NXT bt n s) cs rs (1, s1, c1, r1)) (h3 : RT bt n 3 d 0 s1 (c1 ++ [-2]) (r1 ++ [30001]) r) : RT bt n 3 d 0 s cs rs r := by
  obtain ⟨f, hf⟩ := h2.up
  obtain ⟨g, hg⟩ := h3.up
  refine ⟨f + g + 1, ?_, h3.elim fun _ h9 => h9.2⟩
  show PS3 bt n (PX bt n (f + g)) 9 0 3 (-2) 30001 d s cs rs = r
  unfold PS3
  rw [if_pos h, hf (f + g) (by omega), if_pos rfl]
  exact hg (f + g) (by omega)
theorem RT.orE (h : ¬ WRD bt n s 8) : RT bt n 4 d 0 s cs rs (1, s, cs, rs) := by
  refine ⟨1, ?_, show ¬ (1 : Nat) = 2 by decide⟩
  show PS3 bt n (PX bt n 0) 8 1 4 (-3) 30002 d s cs rs = _
  unfold PS3
  rw [if_neg h]
theorem RT.orF (h : WRD bt n s 8) (h2 : RT bt n 1 d 0 (NXT bt n s) cs rs r) (hr : r.1 = 0) : RT bt n 4 d 0 s cs rs r := by
  obtain ⟨f, h3, h5⟩ := h2
  refine ⟨f + 1, ?_, h5⟩
  show PS3 bt n (PX bt n f) 8 1 4 (-3) 30002 d s cs rs = r
  unfold PS3
  rw [if_pos h, h3, if_neg (by rw [hr]; decide)]
theorem RT.orG (h : WRD bt n s 8) (h2 : RT bt n 1 d 0 (NXT bt n s) cs rs (1, s1, c1, r1)) (h3 : RT bt n 4 d 0 s1 (c1 ++ [-3]) (r1 ++ [30002]) r) : RT bt n 4 d 0 s cs rs r := by
  obtain ⟨f, hf⟩ := h2.up
  obtain ⟨g, hg⟩ := h3.up
  refine ⟨f + g + 1, ?_, h3.elim fun _ h9 => h9.2⟩
  show PS3 bt n (PX bt n (f + g)) 8 1 4 (-3) 30002 d s cs rs = r
  unfold PS3
  rw [if_pos h, hf (f + g) (by omega), if_pos rfl]
  exact hg (f + g) (by omega)
end RTS
/-- how long tokens are -/
theorem slen3r : ∀ i : Nat, i < 16 → 11 ≤ i → 3 ≤ SLEN.getD i 0 := by decide
theorem WRD.len {bt : Nat → Int32} {n s i : Nat} (h : WRD bt n s i) (hs : s ≤ n) : s + SLEN.getD i 0 ≤ NXT bt n s ∧ NXT bt n s ≤ n := by
  have h1 := NXT.ge (bt := bt) hs
  have h2 := h.2.1
  omega
theorem SGN.len {bt : Nat → Int32} {n s : Nat} {c : Int32} (h : SGN bt n s c) (hs : s ≤ n) : s + 1 ≤ NXT bt n s ∧ NXT bt n s ≤ n := by
  have h1 := NXT.ge (bt := bt) hs
  have h2 := TKE.e3 h.1
  omega
theorem NMO.tk {bt : Nat → Int32} {n s v : Nat} (h : NMO bt n s = some v) : TKN bt n s = 2 ∧ TKE bt n s ≤ s + 3 := by
  by_cases c : TKN bt n s = 2 ∧ TKE bt n s ≤ s + 3
  · exact c
  · rw [NMO.n c] at h
    cases h
theorem NMO.len {bt : Nat → Int32} {n s v : Nat} (h : NMO bt n s = some v) (hs : s ≤ n) : s + 1 ≤ NXT bt n s ∧ NXT bt n s ≤ n :=
  ⟨NXT.gt hs (by rw [(NMO.tk h).1]; decide), (NXT.ge hs).2⟩
theorem FAC.of {bt : Nat → Int32} {n s k : Nat} (h : FAC bt n s = some k) : k < 5 ∧ WRD bt n s (11 + k) := by
  by_cases c : ∃ j, j < 5 ∧ WRD bt n s (11 + j)
  · obtain ⟨j, hj, hw⟩ := c
    rw [FAC.y hj hw] at h
    cases h
    exact ⟨hj, hw⟩
  · rw [FAC.n (fun j hj hw => c ⟨j, hj, hw⟩)] at h
    cases h
theorem SIG.of {bt : Nat → Int32} {n s k : Nat} (h : SIG bt n s = some k) : k < 3 ∧ ∃ c, SGN bt n s c := by
  by_cases a : SGN bt n s 60
  · rw [SIG.e0 a] at h
    cases h
    exact ⟨by decide, 60, a⟩
  · by_cases b : SGN bt n s 61
    · rw [SIG.e1 a b] at h
      cases h
      exact ⟨by decide, 61, b⟩
    · by_cases c : SGN bt n s 62
      · rw [SIG.e2 a b c] at h
        cases h
        exact ⟨by decide, 62, c⟩
      · rw [SIG.n a b c] at h
        cases h
theorem CMP.len {bt : Nat → Int32} {n s p v : Nat} (h : CMP bt n s = (1, p, v)) (hs : s ≤ n) : s + 5 ≤ p ∧ p ≤ n := by
  cases hf : FAC bt n s with
  | none =>
    rw [CMP.f1 hf] at h
    exact absurd (show (0 : Nat) = 1 from congrArg Prod.fst h) (by decide)
  | some fa =>
    cases hg : SIG bt n (NXT bt n s) with
    | none =>
      rw [CMP.f2 hf hg] at h
      exact absurd (show (0 : Nat) = 1 from congrArg Prod.fst h) (by decide)
    | some sg =>
      cases hm : NMO bt n (NXT bt n (NXT bt n s)) with
      | none =>
        rw [CMP.f3 hf hg hm] at h
        exact absurd (show (0 : Nat) = 1 from congrArg Prod.fst h) (by decide)
      | some w =>
        rw [CMP.y hf hg hm] at h
        obtain ⟨hk, hw⟩ := FAC.of hf
        have a1 := hw.len hs
        have a2 := slen3r (11 + fa) (by omega) (by omega)
        obtain ⟨-, c, hc⟩ := SIG.of hg
        have a3 := hc.len a1.2
        have a4 := NMO.len hm a3.2
        have e : NXT bt n (NXT bt n (NXT bt n s)) = p := congrArg (fun q => q.2.1) h
        omega
theorem CMP.e1 {bt : Nat → Int32} {n s : Nat} (h : (CMP bt n s).1 = 1) : CMP bt n s = (1, (CMP bt n s).2.1, (CMP bt n s).2.2) := by rw [← h]
theorem CMP.e0 {bt : Nat → Int32} {n s : Nat} (h : (CMP bt n s).1 = 0) : CMP bt n s = (0, (CMP bt n s).2.1, (CMP bt n s).2.2) := by rw [← h]
theorem NOC.len (k : Nat) : (NOC k).length ≤ min k 1 := by
  unfold NOC
  by_cases c : k % 2 = 1
  · rw [if_pos c]
    show 1 ≤ min k 1
    omega
  · rw [if_neg c]
    exact Nat.zero_le _
def LNP (n : Nat) (X : PRX) : Prop := ∀ mo d k s cs rs, s ≤ n → (X mo d k s cs rs).1 = 1 → (X mo d k s cs rs).2.1 ≤ n ∧ cs.length ≤ (X mo d k s cs rs).2.2.1.length ∧ 3 * (X mo d k s cs rs).2.2.1.length + s + (if mo ≤ 2 then 2 else 0) ≤ (X mo d k s cs rs).2.1 + 3 * cs.length + 3 * min k 1
theorem PS0.len {bt : Nat → Int32} {n : Nat} {X : PRX} (h : LNP n X) {d k s : Nat} {cs rs : List Int32} (hs : s ≤ n) (hn : (PS0 bt n X d k s cs rs).1 = 1) : (PS0 bt n X d k s cs rs).2.1 ≤ n ∧ cs.length ≤ (PS0 bt n X d k s cs rs).2.2.1.length ∧ 3 * (PS0 bt n X d k s cs rs).2.2.1.length + s + 2 ≤ (PS0 bt n X d k s cs rs).2.1 + 3 * cs.length + 3 * min k 1 := by
  unfold PS0 at hn ⊢
  by_cases e : WRD bt n s 10
  · rw [if_pos e] at hn
    rw [if_pos e]
    have a1 := e.len hs
    have a2 : SLEN.getD 10 0 = 3 := rfl
    have a3 := h 0 d (k + 1) (NXT bt n s) cs rs a1.2 hn
    rw [if_pos (by decide)] at a3
    have a4 : min (k + 1) 1 = 1 := by omega
    rw [a4] at a3
    omega
  · rw [if_neg e] at hn
    rw [if_neg e]
    by_cases g : SGN bt n s 40
    · rw [if_pos g] at hn
      rw [if_pos g]
      by_cases q : 4 ≤ d
      · rw [if_pos q] at hn
        exact absurd hn (show ¬ (0 : Nat) = 1 by decide)
      · rw [if_neg q] at hn
        rw [if_neg q]
        have a1 := g.len hs
        by_cases c : (X 2 (d + 1) 0 (NXT bt n s) cs rs).1 = 1
        · rw [if_pos c] at hn
          rw [if_pos c]
          have a3 := h 2 (d + 1) 0 (NXT bt n s) cs rs a1.2 c
          rw [if_pos (by decide)] at a3
          by_cases g2 : SGN bt n (X 2 (d + 1) 0 (NXT bt n s) cs rs).2.1 41
          · rw [if_pos g2] at hn
            rw [if_pos g2]
            have a4 := g2.len a3.1
            have a5 := NOC.len k
            show NXT bt n (X 2 (d + 1) 0 (NXT bt n s) cs rs).2.1 ≤ n ∧ cs.length ≤ ((X 2 (d + 1) 0 (NXT bt n s) cs rs).2.2.1 ++ NOC k).length ∧ 3 * ((X 2 (d + 1) 0 (NXT bt n s) cs rs).2.2.1 ++ NOC k).length + s + 2 ≤ NXT bt n (X 2 (d + 1) 0 (NXT bt n s) cs rs).2.1 + 3 * cs.length + 3 * min k 1
            rw [List.length_append]
            have a6 : min 0 1 = 0 := rfl
            rw [a6] at a3
            omega
          · rw [if_neg g2] at hn
            exact absurd hn (show ¬ (0 : Nat) = 1 by decide)
        · rw [if_neg c] at hn
          exact absurd hn c
    · rw [if_neg g] at hn
      rw [if_neg g]
      by_cases c : (CMP bt n s).1 = 1
      · rw [if_pos c]
        have a1 := CMP.len (CMP.e1 c) hs
        have a5 := NOC.len k
        show (CMP bt n s).2.1 ≤ n ∧ cs.length ≤ (cs ++ nI (CMP bt n s).2.2 :: NOC k).length ∧ 3 * (cs ++ nI (CMP bt n s).2.2 :: NOC k).length + s + 2 ≤ (CMP bt n s).2.1 + 3 * cs.length + 3 * min k 1
        rw [List.length_append, List.length_cons]
        omega
      · rw [if_neg c] at hn
        exact absurd hn (show ¬ (0 : Nat) = 1 by decide)
theorem PS1.len {n : Nat} {X : PRX} (h : LNP n X) {a b d s : Nat} {cs rs : List Int32} (ha : a ≤ 2) (hb : ¬ b ≤ 2) (hs : s ≤ n) (hn : (PS1 X a b d s cs rs).1 = 1) : (PS1 X a b d s cs rs).2.1 ≤ n ∧ cs.length ≤ (PS1 X a b d s cs rs).2.2.1.length ∧ 3 * (PS1 X a b d s cs rs).2.2.1.length + s + 2 ≤ (PS1 X a b d s cs rs).2.1 + 3 * cs.length := by
  unfold PS1 at hn ⊢
  by_cases c : (X a d 0 s cs rs).1 = 1
  · rw [if_pos c] at hn
    rw [if_pos c]
    have a1 := h a d 0 s cs rs hs c
    rw [if_pos ha, show min 0 1 = 0 from rfl] at a1
    have a2 := h b d 0 _ _ _ a1.1 hn
    rw [if_neg hb, show min 0 1 = 0 from rfl] at a2
    omega
  · rw [if_neg c] at hn
    exact absurd hn c
theorem PS3.len {bt : Nat → Int32} {n : Nat} {X : PRX} (h : LNP n X) {w a b d s : Nat} {u v : Int32} {cs rs : List Int32} (ha : a ≤ 2) (hb : ¬ b ≤ 2) (hw : 2 ≤ SLEN.getD w 0) (hs : s ≤ n) (hn : (PS3 bt n X w a b u v d s cs rs).1 = 1) : (PS3 bt n X w a b u v d s cs rs).2.1 ≤ n ∧ cs.length ≤ (PS3 bt n X w a b u v d s cs rs).2.2.1.length ∧ 3 * (PS3 bt n X w a b u v d s cs rs).2.2.1.length + s ≤ (PS3 bt n X w a b u v d s cs rs).2.1 + 3 * cs.length := by
  unfold PS3 at hn ⊢
  by_cases e : WRD bt n s w
  · rw [if_pos e] at hn
    rw [if_pos e]
    have a0 := e.len hs
    by_cases c : (X a d 0 (NXT bt n s) cs rs).1 = 1
    · rw [if_pos c] at hn
      rw [if_pos c]
      have a1 := h a d 0 (NXT bt n s) cs rs a0.2 c
      rw [if_pos ha, show min 0 1 = 0 from rfl] at a1
      have a2 := h b d 0 _ _ _ a1.1 hn
      rw [if_neg hb, show min 0 1 = 0 from rfl, List.length_append, List.length_singleton] at a2
      omega
    · rw [if_neg c] at hn
      exact absurd hn c
  · rw [if_neg e]
    exact ⟨hs, Nat.le_refl _, by show 3 * cs.length + s ≤ s + 3 * cs.length; omega⟩
theorem PX.len {bt : Nat → Int32} {n : Nat} : ∀ f, LNP n (PX bt n f)
  | 0 => fun _ _ _ _ _ _ _ h => absurd (show (2 : Nat) = 1 from h) (by decide)
  | f + 1 => fun mo d k s cs rs hs hn => by
    have ih := PX.len (bt := bt) (n := n) f
    have e : PX bt n (f + 1) mo d k s cs rs = PSt bt n (PX bt n f) mo d k s cs rs := rfl
    rw [e] at hn ⊢
    unfold PSt at hn ⊢
    by_cases c0 : mo = 0
    · rw [if_pos c0] at hn
      rw [if_pos c0, if_pos (show mo ≤ 2 by omega)]
      exact PS0.len ih hs hn
    rw [if_neg c0] at hn
    rw [if_neg c0]
    by_cases c1 : mo = 1
    · rw [if_pos c1] at hn
      rw [if_pos c1, if_pos (show mo ≤ 2 by omega)]
      have a := PS1.len ih (by decide) (by decide) hs hn
      omega
    rw [if_neg c1] at hn
    rw [if_neg c1]
    by_cases c2 : mo = 2
    · rw [if_pos c2] at hn
      rw [if_pos c2, if_pos (show mo ≤ 2 by omega)]
      have a := PS1.len ih (by decide) (by decide) hs hn
      omega
    rw [if_neg c2] at hn
    rw [if_neg c2, if_neg (show ¬ mo ≤ 2 by omega)]
    by_cases c3 : mo = 3
    · rw [if_pos c3] at hn
      rw [if_pos c3]
      have a := PS3.len ih (by decide) (by decide) (by decide) hs hn
      omega
    rw [if_neg c3] at hn
    rw [if_neg c3]
    have a := PS3.len ih (by decide) (by decide) (by decide) hs hn
    omega
theorem RT.len {bt : Nat → Int32} {n mo d s p : Nat} {cs rs c1 r1 : List Int32} (h : RT bt n mo d 0 s cs rs (1, p, c1, r1)) (hm : mo ≤ 2) (hs : s ≤ n) : p ≤ n ∧ cs.length ≤ c1.length ∧ 3 * c1.length + s + 2 ≤ p + 3 * cs.length := by
  obtain ⟨f, h1, -⟩ := h
  have a := PX.len (bt := bt) (n := n) f mo d 0 s cs rs hs (by rw [h1])
  rw [h1, if_pos hm] at a
  exact ⟨a.1, a.2.1, by have b : 3 * c1.length + s + 2 ≤ p + 3 * cs.length + 3 * min 0 1 := a.2.2; omega⟩
def LNQ (n : Nat) (X : PRX) : Prop := ∀ mo d k s cs rs, s ≤ n → (X mo d k s cs rs).1 = 1 → (X mo d k s cs rs).2.1 ≤ n ∧ 2 * rs.length + (if mo ≤ 2 then 2 else 0) ≤ 2 * (X mo d k s cs rs).2.2.2.length ∧ 3 * (X mo d k s cs rs).2.2.2.length + s + (if mo ≤ 2 then 2 else 0) ≤ (X mo d k s cs rs).2.1 + 3 * rs.length + 3 * k
theorem PS0.lem {bt : Nat → Int32} {n : Nat} {X : PRX} (h : LNQ n X) {d k s : Nat} {cs rs : List Int32} (hs : s ≤ n) (hn : (PS0 bt n X d k s cs rs).1 = 1) : (PS0 bt n X d k s cs rs).2.1 ≤ n ∧ rs.length + 1 ≤ (PS0 bt n X d k s cs rs).2.2.2.length ∧ 3 * (PS0 bt n X d k s cs rs).2.2.2.length + s + 2 ≤ (PS0 bt n X d k s cs rs).2.1 + 3 * rs.length + 3 * k := by
  unfold PS0 at hn ⊢
  by_cases e : WRD bt n s 10
  · rw [if_pos e] at hn
    rw [if_pos e]
    have a1 := e.len hs
    have a2 : SLEN.getD 10 0 = 3 := rfl
    have a3 := h 0 d (k + 1) (NXT bt n s) cs rs a1.2 hn
    rw [if_pos (by decide)] at a3
    omega
  · rw [if_neg e] at hn
    rw [if_neg e]
    by_cases g : SGN bt n s 40
    · rw [if_pos g] at hn
      rw [if_pos g]
      by_cases q : 4 ≤ d
      · rw [if_pos q] at hn
        exact absurd hn (show ¬ (0 : Nat) = 1 by decide)
      · rw [if_neg q] at hn
        rw [if_neg q]
        have a1 := g.len hs
        by_cases c : (X 2 (d + 1) 0 (NXT bt n s) cs rs).1 = 1
        · rw [if_pos c] at hn
          rw [if_pos c]
          have a3 := h 2 (d + 1) 0 (NXT bt n s) cs rs a1.2 c
          rw [if_pos (by decide)] at a3
          by_cases g2 : SGN bt n (X 2 (d + 1) 0 (NXT bt n s) cs rs).2.1 41
          · rw [if_pos g2] at hn
            rw [if_pos g2]
            have a4 := g2.len a3.1
            have a5 : (NTR k).length = k := List.length_replicate
            show NXT bt n (X 2 (d + 1) 0 (NXT bt n s) cs rs).2.1 ≤ n ∧ rs.length + 1 ≤ ((X 2 (d + 1) 0 (NXT bt n s) cs rs).2.2.2 ++ NTR k).length ∧ 3 * ((X 2 (d + 1) 0 (NXT bt n s) cs rs).2.2.2 ++ NTR k).length + s + 2 ≤ NXT bt n (X 2 (d + 1) 0 (NXT bt n s) cs rs).2.1 + 3 * rs.length + 3 * k
            rw [List.length_append]
            omega
          · rw [if_neg g2] at hn
            exact absurd hn (show ¬ (0 : Nat) = 1 by decide)
        · rw [if_neg c] at hn
          exact absurd hn c
    · rw [if_neg g] at hn
      rw [if_neg g]
      by_cases c : (CMP bt n s).1 = 1
      · rw [if_pos c]
        have a1 := CMP.len (CMP.e1 c) hs
        have a5 : (NTR k).length = k := List.length_replicate
        show (CMP bt n s).2.1 ≤ n ∧ rs.length + 1 ≤ (rs ++ nI (CMP bt n s).2.2 :: NTR k).length ∧ 3 * (rs ++ nI (CMP bt n s).2.2 :: NTR k).length + s + 2 ≤ (CMP bt n s).2.1 + 3 * rs.length + 3 * k
        rw [List.length_append, List.length_cons]
        omega
      · rw [if_neg c] at hn
        exact absurd hn (show ¬ (0 : Nat) = 1 by decide)
theorem PS1.lem {n : Nat} {X : PRX} (h : LNQ n X) {a b d s : Nat} {cs rs : List Int32} (ha : a ≤ 2) (hb : ¬ b ≤ 2) (hs : s ≤ n) (hn : (PS1 X a b d s cs rs).1 = 1) : (PS1 X a b d s cs rs).2.1 ≤ n ∧ rs.length + 1 ≤ (PS1 X a b d s cs rs).2.2.2.length ∧ 3 * (PS1 X a b d s cs rs).2.2.2.length + s + 2 ≤ (PS1 X a b d s cs rs).2.1 + 3 * rs.length := by
  unfold PS1 at hn ⊢
  by_cases c : (X a d 0 s cs rs).1 = 1
  · rw [if_pos c] at hn
    rw [if_pos c]
    have a1 := h a d 0 s cs rs hs c
    rw [if_pos ha] at a1
    have a2 := h b d 0 _ _ _ a1.1 hn
    rw [if_neg hb] at a2
    omega
  · rw [if_neg c] at hn
    exact absurd hn c
theorem PS3.lem {bt : Nat → Int32} {n : Nat} {X : PRX} (h : LNQ n X) {w a b d s : Nat} {u v : Int32} {cs rs : List Int32} (ha : a ≤ 2) (hb : ¬ b ≤ 2) (hw : 2 ≤ SLEN.getD w 0) (hs : s ≤ n) (hn : (PS3 bt n X w a b u v d s cs rs).1 = 1) : (PS3 bt n X w a b u v d s cs rs).2.1 ≤ n ∧ rs.length ≤ (PS3 bt n X w a b u v d s cs rs).2.2.2.length ∧ 3 * (PS3 bt n X w a b u v d s cs rs).2.2.2.length + s ≤ (PS3 bt n X w a b u v d s cs rs).2.1 + 3 * rs.length := by
  unfold PS3 at hn ⊢
  by_cases e : WRD bt n s w
  · rw [if_pos e] at hn
    rw [if_pos e]
    have a0 := e.len hs
    by_cases c : (X a d 0 (NXT bt n s) cs rs).1 = 1
    · rw [if_pos c] at hn
      rw [if_pos c]
      have a1 := h a d 0 (NXT bt n s) cs rs a0.2 c
      rw [if_pos ha] at a1
      have a2 := h b d 0 _ _ _ a1.1 hn
      rw [if_neg hb, List.length_append, List.length_singleton] at a2
      omega
    · rw [if_neg c] at hn
      exact absurd hn c
  · rw [if_neg e]
    exact ⟨hs, Nat.le_refl _, by show 3 * rs.length + s ≤ s + 3 * rs.length; omega⟩
theorem PX.lem {bt : Nat → Int32} {n : Nat} : ∀ f, LNQ n (PX bt n f)
  | 0 => fun _ _ _ _ _ _ _ h => absurd (show (2 : Nat) = 1 from h) (by decide)
  | f + 1 => fun mo d k s cs rs hs hn => by
    have ih := PX.lem (bt := bt) (n := n) f
    have e : PX bt n (f + 1) mo d k s cs rs = PSt bt n (PX bt n f) mo d k s cs rs := rfl
    rw [e] at hn ⊢
    unfold PSt at hn ⊢
    by_cases c0 : mo = 0
    · rw [if_pos c0] at hn
      rw [if_pos c0, if_pos (show mo ≤ 2 by omega)]
      have a := PS0.lem ih hs hn
      omega
    rw [if_neg c0] at hn
    rw [if_neg c0]
    by_cases c1 : mo = 1
    · rw [if_pos c1] at hn
      rw [if_pos c1, if_pos (show mo ≤ 2 by omega)]
      have a := PS1.lem ih (by decide) (by decide) hs hn
      omega
    rw [if_neg c1] at hn
    rw [if_neg c1]
    by_cases c2 : mo = 2
    · rw [if_pos c2] at hn
      rw [if_pos c2, if_pos (show mo ≤ 2 by omega)]
      have a := PS1.lem ih (by decide) (by decide) hs hn
      omega
    rw [if_neg c2] at hn
    rw [if_neg c2, if_neg (show ¬ mo ≤ 2 by omega)]
    by_cases c3 : mo = 3
    · rw [if_pos c3] at hn
      rw [if_pos c3]
      have a := PS3.lem ih (by decide) (by decide) (by decide) hs hn
      omega
    rw [if_neg c3] at hn
    rw [if_neg c3]
    have a := PS3.lem ih (by decide) (by decide) (by decide) hs hn
    omega
theorem RT.lem {bt : Nat → Int32} {n mo d s p : Nat} {cs rs c1 r1 : List Int32} (h : RT bt n mo d 0 s cs rs (1, p, c1, r1)) (hm : mo ≤ 2) (hs : s ≤ n) : p ≤ n ∧ rs.length + 1 ≤ r1.length ∧ 3 * r1.length + s + 2 ≤ p + 3 * rs.length := by
  obtain ⟨f, h1, -⟩ := h
  have a := PX.lem (bt := bt) (n := n) f mo d 0 s cs rs hs (by rw [h1])
  rw [h1, if_pos hm] at a
  exact ⟨a.1, by have b : 2 * rs.length + 2 ≤ 2 * r1.length := a.2.1; omega, by have b : 3 * r1.length + s + 2 ≤ p + 3 * rs.length + 3 * 0 := a.2.2; omega⟩
/-- numbers of three digits -/
theorem VLF.le {bt : Nat → Int32} {s : Nat} : ∀ k, (∀ j, j < k → ∃ d, d ≤ 9 ∧ bt (s + j) = nI (48 + d)) → VLF bt s k < 10 ^ k
  | 0, _ => Nat.zero_lt_one
  | k + 1, h => by
    have ih := VLF.le (bt := bt) (s := s) k (fun j hj => h j (by omega))
    obtain ⟨d, hd, e⟩ := h k (by omega)
    show 10 * VLF bt s k + ((bt (s + k)).toNatClampNeg - 48) < 10 ^ (k + 1)
    rw [e, nI_clamp (by omega), Nat.pow_succ]
    omega
theorem NMO.le {bt : Nat → Int32} {n s v : Nat} (h : NMO bt n s = some v) (hs : s ≤ n) : v ≤ 999 := by
  obtain ⟨h1, h2⟩ := NMO.tk h
  rw [NMO.y h1 h2] at h
  have e : VLF bt s (TKE bt n s - s) = v := Option.some.inj h
  have h3 := RN.sp (bt := bt) (P := DGT) (n := n) (i := s) hs
  have h4 := TKE.ge (bt := bt) hs
  have h5 := VLF.le (bt := bt) (s := s) (TKE bt n s - s) (fun j hj => by
    have h6 : s + j < RN bt DGT n s := by rw [← TKE.e2 h1]; omega
    exact (h3.2.2.1 (s + j) (by omega) h6).v)
  rw [e] at h5
  have h8 : v < 10 ^ 3 := Nat.lt_of_lt_of_le h5 (Nat.pow_le_pow_right (by decide) (by omega))
  have h9 : v < 1000 := h8
  omega
/-- a number of at most m -/
noncomputable def NML (bt : Nat → Int32) (n m s : Nat) : Option Nat := match NMO bt n s with
  | some v => if v ≤ m then some v else none
  | none => none
theorem NML.y {bt : Nat → Int32} {n m s v : Nat} (h : NMO bt n s = some v) (hv : v ≤ m) : NML bt n m s = some v := by unfold NML; rw [h]; exact if_pos hv
theorem NML.b {bt : Nat → Int32} {n m s v : Nat} (h : NMO bt n s = some v) (hv : ¬ v ≤ m) : NML bt n m s = none := by unfold NML; rw [h]; exact if_neg hv
theorem NML.n {bt : Nat → Int32} {n m s : Nat} (h : NMO bt n s = none) : NML bt n m s = none := by unfold NML; rw [h]
theorem NML.of {bt : Nat → Int32} {n m s v : Nat} (h : NML bt n m s = some v) : NMO bt n s = some v ∧ v ≤ m := by
  rcases e : NMO bt n s with _ | w
  · rw [NML.n e] at h
    cases h
  · by_cases c : w ≤ m
    · rw [NML.y e c] at h
      cases h
      exact ⟨rfl, c⟩
    · rw [NML.b e c] at h
      cases h
theorem NML.no {bt : Nat → Int32} {n s : Nat} (h : NML bt n 999 s = none) (hs : s ≤ n) : NMO bt n s = none := by
  rcases e : NMO bt n s with _ | w
  · rfl
  · rw [NML.y e (NMO.le e hs)] at h
    cases h
theorem NML.len {bt : Nat → Int32} {n m s v : Nat} (h : NML bt n m s = some v) (hs : s ≤ n) : s + 1 ≤ NXT bt n s ∧ NXT bt n s ≤ n := NMO.len (NML.of h).1 hs
/-- the sort of a line -/
noncomputable def SRT (bt : Nat → Int32) (n s : Nat) : Option Nat := by
  classical
  exact if WRD bt n s 1 then some 0 else if WRD bt n s 2 then some 1 else if WRD bt n s 3 then some 2 else if WRD bt n s 4 then some 3 else none
theorem SRT.y {bt : Nat → Int32} {n s k : Nat} (hk : k < 4) (h : WRD bt n s (1 + k)) : SRT bt n s = some k := by
  have no : ∀ j, j < 4 → j ≠ k → ¬ WRD bt n s (1 + j) := fun j hj e h2 => e (by have := h2.uq h (by omega) (by omega); omega)
  unfold SRT
  rcases (show k = 0 ∨ k = 1 ∨ k = 2 ∨ k = 3 by omega) with rfl | rfl | rfl | rfl
  · rw [if_pos h]
  · rw [if_neg (no 0 (by omega) (by omega)), if_pos h]
  · rw [if_neg (no 0 (by omega) (by omega)), if_neg (no 1 (by omega) (by omega)), if_pos h]
  · rw [if_neg (no 0 (by omega) (by omega)), if_neg (no 1 (by omega) (by omega)), if_neg (no 2 (by omega) (by omega)), if_pos h]
theorem SRT.n {bt : Nat → Int32} {n s : Nat} (h : ∀ k, k < 4 → ¬ WRD bt n s (1 + k)) : SRT bt n s = none := by
  unfold SRT
  rw [if_neg (h 0 (by omega)), if_neg (h 1 (by omega)), if_neg (h 2 (by omega)), if_neg (h 3 (by omega))]
/-- the numbers behind a line's first name: whether they stand, where they are over or the fault, the three of them -/
abbrev HDT : Type := Nat × Nat × Int32 × Int32 × Int32
/-- taken N of N from N; warn N; ask N by N; heard N -/
def HDQ (bt : Nat → Int32) (n so s : Nat) (r : HDT) : Prop :=
  (NML bt n (if so = 0 ∨ so = 1 then 99 else if so = 2 then 7 else 9) s = none ∧ r = (0, s, -9, -9, -9)) ∨
  ∃ a, NML bt n (if so = 0 ∨ so = 1 then 99 else if so = 2 then 7 else 9) s = some a ∧
    (((so = 1 ∨ so = 3) ∧ r = (1, NXT bt n s, nI a, -9, -9)) ∨
     (so = 0 ∧ ((¬ WRD bt n (NXT bt n s) 5 ∧ r = (0, NXT bt n s, -9, -9, -9)) ∨ (WRD bt n (NXT bt n s) 5 ∧
       ((NML bt n 7 (NXT bt n (NXT bt n s)) = none ∧ r = (0, NXT bt n (NXT bt n s), -9, -9, -9)) ∨ ∃ b, NML bt n 7 (NXT bt n (NXT bt n s)) = some b ∧
         ((¬ WRD bt n (NXT bt n (NXT bt n (NXT bt n s))) 6 ∧ r = (0, NXT bt n (NXT bt n (NXT bt n s)), -9, -9, -9)) ∨ (WRD bt n (NXT bt n (NXT bt n (NXT bt n s))) 6 ∧
           ((NML bt n 7 (NXT bt n (NXT bt n (NXT bt n (NXT bt n s)))) = none ∧ r = (0, NXT bt n (NXT bt n (NXT bt n (NXT bt n s))), -9, -9, -9)) ∨ ∃ c, NML bt n 7 (NXT bt n (NXT bt n (NXT bt n (NXT bt n s)))) = some c ∧ r = (1, NXT bt n (NXT bt n (NXT bt n (NXT bt n (NXT bt n s)))), nI a, nI b, nI c)))))))) ∨
     (so = 2 ∧ ((¬ WRD bt n (NXT bt n s) 7 ∧ r = (0, NXT bt n s, -9, -9, -9)) ∨ (WRD bt n (NXT bt n s) 7 ∧
       ((NML bt n 999 (NXT bt n (NXT bt n s)) = none ∧ r = (0, NXT bt n (NXT bt n s), -9, -9, -9)) ∨ ∃ b, NML bt n 999 (NXT bt n (NXT bt n s)) = some b ∧ r = (1, NXT bt n (NXT bt n (NXT bt n s)), nI a, nI b, -9))))))
theorem HDQ.uq {bt : Nat → Int32} {n so s : Nat} {r q : HDT} (h1 : HDQ bt n so s r) (h2 : HDQ bt n so s q) : r = q := by
  rcases h1 with ⟨a1, a2⟩ | ⟨a, a1, a2⟩
  · rcases h2 with ⟨b1, b2⟩ | ⟨b, b1, b2⟩
    · exact a2.trans b2.symm
    · rw [a1] at b1; cases b1
  · rcases h2 with ⟨b1, b2⟩ | ⟨b, b1, b2⟩
    · rw [a1] at b1; cases b1
    · rw [a1] at b1
      cases b1
      rcases a2 with ⟨a2, a3⟩ | ⟨a2, a3⟩ | ⟨a2, a3⟩
      · rcases b2 with ⟨b2, b3⟩ | ⟨b2, b3⟩ | ⟨b2, b3⟩
        · exact a3.trans b3.symm
        · exact (show False by omega).elim
        · exact (show False by omega).elim
      · rcases b2 with ⟨b2, b3⟩ | ⟨b2, b3⟩ | ⟨b2, b3⟩
        · exact (show False by omega).elim
        · rcases a3 with ⟨a3, a4⟩ | ⟨a3, a4⟩
          · rcases b3 with ⟨b3, b4⟩ | ⟨b3, b4⟩
            · exact a4.trans b4.symm
            · exact absurd b3 a3
          · rcases b3 with ⟨b3, b4⟩ | ⟨b3, b4⟩
            · exact absurd a3 b3
            · rcases a4 with ⟨a4, a5⟩ | ⟨c, a4, a5⟩
              · rcases b4 with ⟨b4, b5⟩ | ⟨e, b4, b5⟩
                · exact a5.trans b5.symm
                · rw [a4] at b4; cases b4
              · rcases b4 with ⟨b4, b5⟩ | ⟨e, b4, b5⟩
                · rw [a4] at b4; cases b4
                · rw [a4] at b4
                  cases b4
                  rcases a5 with ⟨a5, a6⟩ | ⟨a5, a6⟩
                  · rcases b5 with ⟨b5, b6⟩ | ⟨b5, b6⟩
                    · exact a6.trans b6.symm
                    · exact absurd b5 a5
                  · rcases b5 with ⟨b5, b6⟩ | ⟨b5, b6⟩
                    · exact absurd a5 b5
                    · rcases a6 with ⟨a6, a7⟩ | ⟨f, a6, a7⟩
                      · rcases b6 with ⟨b6, b7⟩ | ⟨g, b6, b7⟩
                        · exact a7.trans b7.symm
                        · rw [a6] at b6; cases b6
                      · rcases b6 with ⟨b6, b7⟩ | ⟨g, b6, b7⟩
                        · rw [a6] at b6; cases b6
                        · rw [a6] at b6
                          cases b6
                          exact a7.trans b7.symm
        · exact (show False by omega).elim
      · rcases b2 with ⟨b2, b3⟩ | ⟨b2, b3⟩ | ⟨b2, b3⟩
        · exact (show False by omega).elim
        · exact (show False by omega).elim
        · rcases a3 with ⟨a3, a4⟩ | ⟨a3, a4⟩
          · rcases b3 with ⟨b3, b4⟩ | ⟨b3, b4⟩
            · exact a4.trans b4.symm
            · exact absurd b3 a3
          · rcases b3 with ⟨b3, b4⟩ | ⟨b3, b4⟩
            · exact absurd a3 b3
            · rcases a4 with ⟨a4, a5⟩ | ⟨c, a4, a5⟩
              · rcases b4 with ⟨b4, b5⟩ | ⟨e, b4, b5⟩
                · exact a5.trans b5.symm
                · rw [a4] at b4; cases b4
              · rcases b4 with ⟨b4, b5⟩ | ⟨e, b4, b5⟩
                · rw [a4] at b4; cases b4
                · rw [a4] at b4
                  cases b4
                  exact a5.trans b5.symm
/-- a line: its sort, its numbers, whether it has a cond, the steps from where to where on either side -/
abbrev LNT : Type := Nat × Int32 × Int32 × Int32 × Nat × Nat × Nat × Nat × Nat
abbrev LNR : Type := Nat × Nat × LNT × List Int32 × List Int32
def LN0 : LNT := (0, 0, 0, 0, 0, 0, 0, 0, 0)
/-- what a line comes to: 1 where it is over, 0 the fault -/
def RLN (bt : Nat → Int32) (n s : Nat) (cs rs : List Int32) (r : LNR) : Prop :=
  (SRT bt n s = none ∧ r = (0, s, LN0, [], [])) ∨
  ∃ so, SRT bt n s = some so ∧
    ((∃ p, HDQ bt n so (NXT bt n s) (0, p, -9, -9, -9) ∧ r = (0, p, LN0, [], [])) ∨
     ∃ p a b c, HDQ bt n so (NXT bt n s) (1, p, a, b, c) ∧
      ((¬ (¬ so = 3 ∧ WRD bt n p 0) ∧ ((¬ SGN bt n p 59 ∧ r = (0, p, LN0, [], [])) ∨ (SGN bt n p 59 ∧ r = (1, NXT bt n p, (so, a, b, c, 0, cs.length, cs.length, rs.length, rs.length), cs, rs)))) ∨
       ((¬ so = 3 ∧ WRD bt n p 0) ∧
        ((∃ q, RT bt n 2 0 0 (NXT bt n p) cs rs (0, q, [], []) ∧ r = (0, q, LN0, [], [])) ∨
         ∃ q c1 r1, RT bt n 2 0 0 (NXT bt n p) cs rs (1, q, c1, r1) ∧ ((¬ SGN bt n q 59 ∧ r = (0, q, LN0, [], [])) ∨ (SGN bt n q 59 ∧ r = (1, NXT bt n q, (so, a, b, c, 1, cs.length, c1.length, rs.length, r1.length), c1, r1)))))))
theorem RLN.uq {bt : Nat → Int32} {n s : Nat} {cs rs : List Int32} {r q : LNR} (h1 : RLN bt n s cs rs r) (h2 : RLN bt n s cs rs q) : r = q := by
  rcases h1 with ⟨a1, a2⟩ | ⟨so, a1, a2⟩
  · rcases h2 with ⟨b1, b2⟩ | ⟨so2, b1, b2⟩
    · exact a2.trans b2.symm
    · rw [a1] at b1; cases b1
  · rcases h2 with ⟨b1, b2⟩ | ⟨so2, b1, b2⟩
    · rw [a1] at b1; cases b1
    · rw [a1] at b1
      cases b1
      rcases a2 with ⟨p, a2, a3⟩ | ⟨p, a, b, c, a2, a3⟩
      · rcases b2 with ⟨p2, b2, b3⟩ | ⟨p2, x, y, z, b2, b3⟩
        · have e := a2.uq b2
          cases e
          exact a3.trans b3.symm
        · have e := a2.uq b2
          exact absurd (show (0 : Nat) = 1 from congrArg Prod.fst e) (by decide)
      · rcases b2 with ⟨p2, b2, b3⟩ | ⟨p2, x, y, z, b2, b3⟩
        · have e := a2.uq b2
          exact absurd (show (1 : Nat) = 0 from congrArg Prod.fst e) (by decide)
        · have e := a2.uq b2
          cases e
          rcases a3 with ⟨a3, a4⟩ | ⟨a3, a4⟩
          · rcases b3 with ⟨b3, b4⟩ | ⟨b3, b4⟩
            · rcases a4 with ⟨a4, a5⟩ | ⟨a4, a5⟩
              · rcases b4 with ⟨b4, b5⟩ | ⟨b4, b5⟩
                · exact a5.trans b5.symm
                · exact absurd b4 a4
              · rcases b4 with ⟨b4, b5⟩ | ⟨b4, b5⟩
                · exact absurd a4 b4
                · exact a5.trans b5.symm
            · exact absurd b3 a3
          · rcases b3 with ⟨b3, b4⟩ | ⟨b3, b4⟩
            · exact absurd a3 b3
            · rcases a4 with ⟨q1, a4, a5⟩ | ⟨q1, c1, r1, a4, a5⟩
              · rcases b4 with ⟨q2, b4, b5⟩ | ⟨q2, c2, r2, b4, b5⟩
                · have e := a4.uq b4
                  cases e
                  exact a5.trans b5.symm
                · have e := a4.uq b4
                  exact absurd (show (0 : Nat) = 1 from congrArg Prod.fst e) (by decide)
              · rcases b4 with ⟨q2, b4, b5⟩ | ⟨q2, c2, r2, b4, b5⟩
                · have e := a4.uq b4
                  exact absurd (show (1 : Nat) = 0 from congrArg Prod.fst e) (by decide)
                · have e := a4.uq b4
                  cases e
                  rcases a5 with ⟨a5, a6⟩ | ⟨a5, a6⟩
                  · rcases b5 with ⟨b5, b6⟩ | ⟨b5, b6⟩
                    · exact a6.trans b6.symm
                    · exact absurd b5 a5
                  · rcases b5 with ⟨b5, b6⟩ | ⟨b5, b6⟩
                    · exact absurd a5 b5
                    · exact a6.trans b6.symm
/-- what a text comes to: so many lines more may follow -/
abbrev TXR : Type := Nat × Nat × List LNT × List Int32 × List Int32
def TXT (bt : Nat → Int32) (n : Nat) : Nat → Nat → List LNT → List Int32 → List Int32 → TXR → Prop
  | 0, s, ls, cs, rs, r => (TKN bt n s = 0 ∧ r = (1, 0, ls, cs, rs)) ∨ (¬ TKN bt n s = 0 ∧ r = (0, s, [], [], []))
  | k + 1, s, ls, cs, rs, r => (TKN bt n s = 0 ∧ r = (1, 0, ls, cs, rs)) ∨ (¬ TKN bt n s = 0 ∧
      ((∃ p, RLN bt n s cs rs (0, p, LN0, [], []) ∧ r = (0, p, [], [], [])) ∨ ∃ p ln c1 r1, RLN bt n s cs rs (1, p, ln, c1, r1) ∧ TXT bt n k p (ls ++ [ln]) c1 r1 r))
theorem TXT.uq {bt : Nat → Int32} {n : Nat} : ∀ (k s : Nat) (ls : List LNT) (cs rs : List Int32) (r q : TXR), TXT bt n k s ls cs rs r → TXT bt n k s ls cs rs q → r = q
  | 0, s, ls, cs, rs, r, q, h1, h2 => by
    rcases h1 with ⟨a1, a2⟩ | ⟨a1, a2⟩
    · rcases h2 with ⟨b1, b2⟩ | ⟨b1, b2⟩
      · exact a2.trans b2.symm
      · exact absurd a1 b1
    · rcases h2 with ⟨b1, b2⟩ | ⟨b1, b2⟩
      · exact absurd b1 a1
      · exact a2.trans b2.symm
  | k + 1, s, ls, cs, rs, r, q, h1, h2 => by
    rcases h1 with ⟨a1, a2⟩ | ⟨a1, a2⟩
    · rcases h2 with ⟨b1, b2⟩ | ⟨b1, b2⟩
      · exact a2.trans b2.symm
      · exact absurd a1 b1
    · rcases h2 with ⟨b1, b2⟩ | ⟨b1, b2⟩
      · exact absurd b1 a1
      · rcases a2 with ⟨p, a2, a3⟩ | ⟨p, ln, c1, r1, a2, a3⟩
        · rcases b2 with ⟨p2, b2, b3⟩ | ⟨p2, ln2, c2, r2, b2, b3⟩
          · have e := a2.uq b2
            cases e
            exact a3.trans b3.symm
          · have e := a2.uq b2
            exact absurd (show (0 : Nat) = 1 from congrArg Prod.fst e) (by decide)
        · rcases b2 with ⟨p2, b2, b3⟩ | ⟨p2, ln2, c2, r2, b2, b3⟩
          · have e := a2.uq b2
            exact absurd (show (1 : Nat) = 0 from congrArg Prod.fst e) (by decide)
          · have e := a2.uq b2
            cases e
            exact TXT.uq k _ _ _ _ _ _ a3 b3
theorem TXT.end {bt : Nat → Int32} {n s : Nat} {ls : List LNT} {cs rs : List Int32} (h : TKN bt n s = 0) : ∀ k, TXT bt n k s ls cs rs (1, 0, ls, cs, rs)
  | 0 => Or.inl ⟨h, rfl⟩
  | _ + 1 => Or.inl ⟨h, rfl⟩
theorem TXT.full {bt : Nat → Int32} {n k s : Nat} {ls : List LNT} {cs rs : List Int32} (hk : k = 0) (h : ¬ TKN bt n s = 0) : TXT bt n k s ls cs rs (0, s, [], [], []) := by
  subst hk
  exact Or.inr ⟨h, rfl⟩
theorem TXT.bad {bt : Nat → Int32} {n k s p : Nat} {ls : List LNT} {cs rs : List Int32} (hk : ¬ k = 0) (h : ¬ TKN bt n s = 0) (h2 : RLN bt n s cs rs (0, p, LN0, [], [])) : TXT bt n k s ls cs rs (0, p, [], [], []) := by
  obtain ⟨j, rfl⟩ : ∃ j, k = j + 1 := ⟨k - 1, by omega⟩
  exact Or.inr ⟨h, Or.inl ⟨p, h2, rfl⟩⟩
theorem TXT.step {bt : Nat → Int32} {n j k s p : Nat} {ls : List LNT} {ln : LNT} {cs rs c1 r1 : List Int32} {q : TXR} (hk : k = j + 1) (h : ¬ TKN bt n s = 0) (h2 : RLN bt n s cs rs (1, p, ln, c1, r1)) (h3 : TXT bt n j p (ls ++ [ln]) c1 r1 q) : TXT bt n k s ls cs rs q := by
  subst hk
  exact Or.inr ⟨h, Or.inr ⟨p, ln, c1, r1, h2, h3⟩⟩
/-- what read answers over kv versions -/
def RDQ (bt : Nat → Int32) (n kv : Nat) (r : Int32) : Prop := (∃ p, TXT bt n 9 (SK bt n 0) [] [] [] (0, p, [], [], []) ∧ r = -100 - nI p) ∨ ∃ ls c q, TXT bt n 9 (SK bt n 0) [] [] [] (1, 0, ls, c, q) ∧ ((8 ≤ kv ∧ r = -2) ∨ (¬ 8 ≤ kv ∧ r = nI kv))
theorem RDQ.uq {bt : Nat → Int32} {n kv : Nat} {r s : Int32} (h1 : RDQ bt n kv r) (h2 : RDQ bt n kv s) : r = s := by
  rcases h1 with ⟨p, a, b⟩ | ⟨l1, c1, q1, a, b⟩
  · rcases h2 with ⟨p2, a2, b2⟩ | ⟨l2, c2, q2, a2, -⟩
    · have e := TXT.uq _ _ _ _ _ _ _ a a2
      cases e
      exact b.trans b2.symm
    · have e := TXT.uq _ _ _ _ _ _ _ a a2
      exact absurd (show (0 : Nat) = 1 from congrArg Prod.fst e) (by decide)
  · rcases h2 with ⟨p2, a2, b2⟩ | ⟨l2, c2, q2, a2, b2⟩
    · have e := TXT.uq _ _ _ _ _ _ _ a a2
      exact absurd (show (1 : Nat) = 0 from congrArg Prod.fst e) (by decide)
    · rcases b with ⟨b, c⟩ | ⟨b, c⟩
      · rcases b2 with ⟨b2, c2⟩ | ⟨b2, c2⟩
        · exact c.trans c2.symm
        · exact absurd b b2
      · rcases b2 with ⟨b2, c2⟩ | ⟨b2, c2⟩
        · exact absurd b2 b
        · exact c.trans c2.symm
theorem upd_ne {f : Nat → Int32} {k i : Nat} {v : Int32} (h : i ≠ k) : upd f k v i = f i := if_neg h
theorem upd_eq {f : Nat → Int32} {k i : Nat} {v : Int32} (h : i = k) : upd f k v i = v := if_pos h
/-- the class's word for the token at s -/
noncomputable def CKD (bt : Nat → Int32) (n s : Nat) : Int32 := if TKN bt n s = 0 then -1 else if TKN bt n s = 1 then -2 else if TKN bt n s = 2 then -3 else bt s
def BNN (bt : Nat → Int32) (n : Nat) : Prop := ∀ j, j < n → ¬ bt j < 0
section CKS
variable {bt : Nat → Int32} {n s : Nat}
theorem CKD.e0 (h : TKN bt n s = 0) : CKD bt n s = -1 := by unfold CKD; rw [if_pos h]
theorem CKD.e1 (h : TKN bt n s = 1) : CKD bt n s = -2 := by unfold CKD; rw [h]; rfl
theorem CKD.e2 (h : TKN bt n s = 2) : CKD bt n s = -3 := by unfold CKD; rw [h]; rfl
theorem CKD.e3 (h : TKN bt n s = 3) : CKD bt n s = bt s := by unfold CKD; rw [h]; rfl
theorem CKD.all (hB : BNN bt n) (s : Nat) : (TKN bt n s = 0 ∧ CKD bt n s = -1) ∨ (TKN bt n s = 1 ∧ CKD bt n s = -2) ∨ (TKN bt n s = 2 ∧ CKD bt n s = -3) ∨ (TKN bt n s = 3 ∧ CKD bt n s = bt s ∧ ¬ bt s < 0) := by
  rcases TKN.cases bt n s with ⟨-, h⟩ | ⟨-, -, h⟩ | ⟨-, -, -, h⟩ | ⟨h1, -, -, h⟩
  · exact Or.inl ⟨h, CKD.e0 h⟩
  · exact Or.inr (Or.inl ⟨h, CKD.e1 h⟩)
  · exact Or.inr (Or.inr (Or.inl ⟨h, CKD.e2 h⟩))
  · exact Or.inr (Or.inr (Or.inr ⟨h, CKD.e3 h, hB s h1⟩))
theorem CKD.en (hB : BNN bt n) : CKD bt n s = -1 ↔ TKN bt n s = 0 := by
  rcases CKD.all hB s with ⟨a, b⟩ | ⟨a, b⟩ | ⟨a, b⟩ | ⟨a, b, c⟩
  · exact ⟨fun _ => a, fun _ => b⟩
  · exact ⟨fun h => absurd (b.symm.trans h) (by decide), fun h => absurd (a.symm.trans h) (by decide)⟩
  · exact ⟨fun h => absurd (b.symm.trans h) (by decide), fun h => absurd (a.symm.trans h) (by decide)⟩
  · exact ⟨fun h => absurd (show bt s < 0 by rw [← b, h]; decide) c, fun h => absurd (a.symm.trans h) (by decide)⟩
theorem CKD.nm (hB : BNN bt n) : CKD bt n s = -2 ↔ TKN bt n s = 1 := by
  rcases CKD.all hB s with ⟨a, b⟩ | ⟨a, b⟩ | ⟨a, b⟩ | ⟨a, b, c⟩
  · exact ⟨fun h => absurd (b.symm.trans h) (by decide), fun h => absurd (a.symm.trans h) (by decide)⟩
  · exact ⟨fun _ => a, fun _ => b⟩
  · exact ⟨fun h => absurd (b.symm.trans h) (by decide), fun h => absurd (a.symm.trans h) (by decide)⟩
  · exact ⟨fun h => absurd (show bt s < 0 by rw [← b, h]; decide) c, fun h => absurd (a.symm.trans h) (by decide)⟩
theorem CKD.nu (hB : BNN bt n) : CKD bt n s = -3 ↔ TKN bt n s = 2 := by
  rcases CKD.all hB s with ⟨a, b⟩ | ⟨a, b⟩ | ⟨a, b⟩ | ⟨a, b, c⟩
  · exact ⟨fun h => absurd (b.symm.trans h) (by decide), fun h => absurd (a.symm.trans h) (by decide)⟩
  · exact ⟨fun h => absurd (b.symm.trans h) (by decide), fun h => absurd (a.symm.trans h) (by decide)⟩
  · exact ⟨fun _ => a, fun _ => b⟩
  · exact ⟨fun h => absurd (show bt s < 0 by rw [← b, h]; decide) c, fun h => absurd (a.symm.trans h) (by decide)⟩
theorem CKD.sg {c : Int32} (hB : BNN bt n) (hc : ¬ c < 0) : CKD bt n s = c ↔ SGN bt n s c := by
  rcases CKD.all hB s with ⟨a, b⟩ | ⟨a, b⟩ | ⟨a, b⟩ | ⟨a, b, -⟩
  · exact ⟨fun h => absurd (show c < 0 by rw [← h, b]; decide) hc, fun h => absurd (a.symm.trans h.1) (by decide)⟩
  · exact ⟨fun h => absurd (show c < 0 by rw [← h, b]; decide) hc, fun h => absurd (a.symm.trans h.1) (by decide)⟩
  · exact ⟨fun h => absurd (show c < 0 by rw [← h, b]; decide) hc, fun h => absurd (a.symm.trans h.1) (by decide)⟩
  · exact ⟨fun h => ⟨a, b.symm.trans h⟩, fun h => b.trans h.2⟩
/-- such bytes from a to b -/
def RUN (bt : Nat → Int32) (P : Int32 → Prop) (a b : Nat) : Prop := ∀ k, a ≤ k → k < b → P (bt k)
theorem RUN.zero {P : Int32 → Prop} {a : Nat} : RUN bt P a a := fun k h1 h2 => absurd h2 (by omega)
theorem RUN.next {P : Int32 → Prop} {a b : Nat} (h : RUN bt P a b) (hp : P (bt b)) : RUN bt P a (b + 1) := fun k h1 h2 => by
  by_cases e : k = b
  · rw [e]; exact hp
  · exact h k h1 (by omega)
def BLN (x : Int32) : Prop := x = 32
theorem SK.of {i j : Nat} (h1 : i ≤ j) (h2 : j ≤ n) (h3 : RUN bt BLN i j) (h4 : j < n → ¬ bt j = 32) : SK bt n i = j := SK.eq ⟨h1, h2, h3, h4⟩
theorem TKE.nm {j : Nat} (hs : s < n) (hl : LTR (bt s)) (h1 : s ≤ j) (h2 : j ≤ n) (h3 : RUN bt LTR s j) (h4 : j < n → ¬ LTR (bt j)) : CKD bt n s = -2 ∧ TKE bt n s = j := ⟨CKD.e1 (TKN.e1 hs hl), (TKE.e1 (TKN.e1 hs hl)).trans (RN.eq ⟨h1, h2, h3, h4⟩)⟩
theorem TKE.nu {j : Nat} (hs : s < n) (hl : ¬ LTR (bt s)) (hd : DGT (bt s)) (h1 : s ≤ j) (h2 : j ≤ n) (h3 : RUN bt DGT s j) (h4 : j < n → ¬ DGT (bt j)) : CKD bt n s = -3 ∧ TKE bt n s = j := ⟨CKD.e2 (TKN.e2 hs hl hd), (TKE.e2 (TKN.e2 hs hl hd)).trans (RN.eq ⟨h1, h2, h3, h4⟩)⟩
theorem TKE.by9 (hs : s < n) (hl : ¬ LTR (bt s)) (hd : ¬ DGT (bt s)) : CKD bt n s = bt s ∧ TKE bt n s = s + 1 := ⟨CKD.e3 (TKN.e3 hs hl hd), TKE.e3 (TKN.e3 hs hl hd)⟩
theorem TKE.en (hs : n ≤ s) : CKD bt n s = -1 ∧ TKE bt n s = s := ⟨CKD.e0 (TKN.e0 (by omega)), TKE.e0 (TKN.e0 (by omega))⟩
/-- how far a word agrees -/
def WDP (bt : Nat → Int32) (s i k : Nat) : Prop := ∀ j, j < k → bt (s + j) = (SBY.getD i []).getD j 0
theorem WDP.zero {i : Nat} : WDP bt s i 0 := fun j h => absurd h (Nat.not_lt_zero j)
theorem WDP.next {i k : Nat} (h : WDP bt s i k) (e : bt (s + k) = (SBY.getD i []).getD k 0) : WDP bt s i (k + 1) := fun j hj => by
  by_cases c : j = k
  · rw [c]; exact e
  · exact h j (by omega)
theorem WRD.of {i : Nat} (h1 : TKN bt n s = 1) (h2 : TKE bt n s - s = SLEN.getD i 0) (h0 : s ≤ TKE bt n s) (h3 : WDP bt s i (SLEN.getD i 0)) : WRD bt n s i := ⟨h1, by omega, h3⟩
/-- a number's value -/
noncomputable def NVL (bt : Nat → Int32) (n s : Nat) : Nat := VLF bt s (TKE bt n s - s)
theorem VLF.next {k d : Nat} (hk : s ≤ k) (hd : d ≤ 9) (e : bt k = nI (48 + d)) : 10 * VLF bt s (k - s) + d = VLF bt s (k + 1 - s) := by
  obtain ⟨j, rfl⟩ : ∃ j, k = s + j := ⟨k - s, by omega⟩
  rw [show s + j + 1 - s = j + 1 by omega, show s + j - s = j by omega]
  show 10 * VLF bt s j + d = 10 * VLF bt s j + ((bt (s + j)).toNatClampNeg - 48)
  rw [e, nI_clamp (by omega)]
  omega
theorem DGS.at (hs : s ≤ n) (h : TKN bt n s = 2) {k : Nat} (h1 : s ≤ k) (h2 : k < TKE bt n s) : ∃ d, d ≤ 9 ∧ bt k = nI (48 + d) := by
  have h3 := RN.sp (bt := bt) (P := DGT) (n := n) (i := s) hs
  rw [TKE.e2 h] at h2
  exact (h3.2.2.1 k h1 h2).v
/-- facts, signs, sorts, by their numbers -/
noncomputable def FAV (bt : Nat → Int32) (n s : Nat) : Nat := (FAC bt n s).getD 0
noncomputable def SIV (bt : Nat → Int32) (n s : Nat) : Nat := (SIG bt n s).getD 0
noncomputable def SRV (bt : Nat → Int32) (n s : Nat) : Nat := (SRT bt n s).getD 0
theorem FAV.y {k : Nat} (hk : k < 5) (h : WRD bt n s (11 + k)) : nI k = nI (FAV bt n s) ∧ FAC bt n s = some (FAV bt n s) ∧ FAV bt n s < 5 := by
  have e := FAC.y hk h
  have e2 : FAV bt n s = k := by unfold FAV; rw [e]; rfl
  rw [e2]
  exact ⟨rfl, e, hk⟩
theorem FAC.n5 (h0 : ¬ WRD bt n s 11) (h1 : ¬ WRD bt n s 12) (h2 : ¬ WRD bt n s 13) (h3 : ¬ WRD bt n s 14) (h4 : ¬ WRD bt n s 15) : FAC bt n s = none := FAC.n fun k hk => by
  rcases (show k = 0 ∨ k = 1 ∨ k = 2 ∨ k = 3 ∨ k = 4 by omega) with rfl | rfl | rfl | rfl | rfl
  · exact h0
  · exact h1
  · exact h2
  · exact h3
  · exact h4
theorem SIV.y {k : Nat} (hk : k < 3) (h : SIG bt n s = some k) : nI k = nI (SIV bt n s) ∧ SIG bt n s = some (SIV bt n s) ∧ SIV bt n s < 3 := by
  have e2 : SIV bt n s = k := by unfold SIV; rw [h]; rfl
  rw [e2]
  exact ⟨rfl, h, hk⟩
theorem SRV.y {k : Nat} (hk : k < 4) (h : WRD bt n s (1 + k)) : nI k = nI (SRV bt n s) ∧ SRT bt n s = some (SRV bt n s) ∧ SRV bt n s < 4 := by
  have e := SRT.y hk h
  have e2 : SRV bt n s = k := by unfold SRV; rw [e]; rfl
  rw [e2]
  exact ⟨rfl, e, hk⟩
theorem SRT.n4 (h0 : ¬ WRD bt n s 1) (h1 : ¬ WRD bt n s 2) (h2 : ¬ WRD bt n s 3) (h3 : ¬ WRD bt n s 4) : SRT bt n s = none := SRT.n fun k hk => by
  rcases (show k = 0 ∨ k = 1 ∨ k = 2 ∨ k = 3 by omega) with rfl | rfl | rfl | rfl
  · exact h0
  · exact h1
  · exact h2
  · exact h3
theorem CMP.g0 (h : FAC bt n s = none) : (CMP bt n s).1 = 0 ∧ (CMP bt n s).2.1 = s := by rw [CMP.f1 h]; exact ⟨rfl, rfl⟩
theorem CMP.g1 {fa : Nat} (h : FAC bt n s = some fa) (h2 : SIG bt n (NXT bt n s) = none) : (CMP bt n s).1 = 0 ∧ (CMP bt n s).2.1 = NXT bt n s := by rw [CMP.f2 h h2]; exact ⟨rfl, rfl⟩
theorem CMP.g2 {fa sg : Nat} (h : FAC bt n s = some fa) (h2 : SIG bt n (NXT bt n s) = some sg) (h3 : NMO bt n (NXT bt n (NXT bt n s)) = none) : (CMP bt n s).1 = 0 ∧ (CMP bt n s).2.1 = NXT bt n (NXT bt n s) := by rw [CMP.f3 h h2 h3]; exact ⟨rfl, rfl⟩
theorem CMP.g3 {fa sg v : Nat} (h : FAC bt n s = some fa) (h2 : SIG bt n (NXT bt n s) = some sg) (h3 : NMO bt n (NXT bt n (NXT bt n s)) = some v) : (CMP bt n s).1 = 1 ∧ (CMP bt n s).2.1 = NXT bt n (NXT bt n (NXT bt n s)) ∧ (CMP bt n s).2.2 = (fa * 3 + sg) * 1000 + v := by rw [CMP.y h h2 h3]; exact ⟨rfl, rfl, rfl⟩
/-- the steps' table holds these -/
def STP (k : Nat) (f : Nat → Int32) (cs : List Int32) : Prop := cs.length = k ∧ ∀ i, i < k → f i = cs.getD i 0
theorem STP.zero {f : Nat → Int32} : STP 0 f [] := ⟨rfl, fun i h => absurd h (Nat.not_lt_zero i)⟩
theorem STP.push {k : Nat} {f : Nat → Int32} {cs : List Int32} {v : Int32} (h : STP k f cs) : STP (k + 1) (upd f k v) (cs ++ [v]) := by
  obtain ⟨h1, h2⟩ := h
  refine ⟨by rw [List.length_append, h1]; rfl, fun i hi => ?_⟩
  by_cases c : i = k
  · subst c
    rw [upd_eq rfl, List.getD_eq_getElem?_getD, List.getElem?_append_right (by omega), h1, Nat.sub_self]
    rfl
  · rw [upd_ne c, h2 i (by omega), List.getD_eq_getElem?_getD, List.getD_eq_getElem?_getD, List.getElem?_append_left (by omega)]
theorem NOC.even {k : Nat} (h : k % 2 = 0) : NOC k = [] := by unfold NOC; rw [if_neg (by omega)]
theorem NOC.odd {k : Nat} (h : k % 2 = 1) : NOC k = [-1] := by unfold NOC; rw [if_pos h]
theorem STP.k0 {k v : Nat} {f : Nat → Int32} {cs : List Int32} (h : STP k f cs) (hv : v % 2 = 0) : STP k f (cs ++ NOC v) := by rw [NOC.even hv, List.append_nil]; exact h
theorem STP.k1 {k v : Nat} {f : Nat → Int32} {cs : List Int32} (h : STP k f cs) (hv : v % 2 = 1) : STP (k + 1) (upd f k (-1)) (cs ++ NOC v) := by rw [NOC.odd hv]; exact h.push
theorem STP.c0 {k v : Nat} {x : Int32} {f : Nat → Int32} {cs : List Int32} (h : STP k f cs) (hv : v % 2 = 0) : STP (k + 1) (upd f k x) (cs ++ x :: NOC v) := by rw [NOC.even hv]; exact h.push
theorem STP.c1 {k v : Nat} {x : Int32} {f : Nat → Int32} {cs : List Int32} (h : STP k f cs) (hv : v % 2 = 1) : STP (k + 1 + 1) (upd (upd f k x) (k + 1) (-1)) (cs ++ x :: NOC v) := by
  have e : cs ++ x :: NOC v = (cs ++ [x]) ++ [-1] := by rw [NOC.odd hv, List.append_assoc]; rfl
  rw [e]
  exact h.push.push
/-- the nots so far -/
def TUR (tu : Int32) (k : Nat) : Prop := (tu = 0 ∧ k % 2 = 0) ∨ (tu = 1 ∧ k % 2 = 1)
theorem TUR.zero : TUR 0 0 := Or.inl ⟨rfl, rfl⟩
theorem TUR.a {tu : Int32} {k : Nat} (h : TUR tu k) (c : tu = 0) : TUR 1 (k + 1) := by
  rcases h with ⟨-, h⟩ | ⟨h, -⟩
  · exact Or.inr ⟨rfl, by omega⟩
  · exact absurd (c.symm.trans h) (by decide)
theorem TUR.b {tu : Int32} {k : Nat} (h : TUR tu k) (c : ¬ tu = 0) : TUR 0 (k + 1) := by
  rcases h with ⟨h, -⟩ | ⟨-, h⟩
  · exact absurd h c
  · exact Or.inl ⟨rfl, by omega⟩
theorem TUR.e {tu : Int32} {k : Nat} (h : TUR tu k) (c : tu = 0) : k % 2 = 0 := by
  rcases h with ⟨-, h⟩ | ⟨h, -⟩
  · exact h
  · exact absurd (c.symm.trans h) (by decide)
theorem TUR.o {tu : Int32} {k : Nat} (h : TUR tu k) (c : ¬ tu = 0) : k % 2 = 1 := by
  rcases h with ⟨h, -⟩ | ⟨-, h⟩
  · exact absurd h c
  · exact h
theorem VLF.zz : VLF bt s (s - s) = 0 := by rw [Nat.sub_self]; rfl
theorem VLF.nx2 {k d v : Nat} (h : VLF bt s (k - s) = v) (hk : s ≤ k) (hd : d ≤ 9) (e : bt k = nI (48 + d)) : VLF bt s (k + 1 - s) = 10 * v + d := by
  rw [← h]
  exact (VLF.next hk hd e).symm
theorem nI_subT {a b : Nat} (h : b ≤ a) : nI a - nI b = nI (a - b) := by
  obtain ⟨c, rfl⟩ : ∃ c, a = b + c := ⟨a - b, by omega⟩
  rw [show b + c - b = c by omega, ← nI_add b c, Int32.add_comm, Int32.add_sub_cancel]
theorem nleT {a b : Nat} (ha : a < 2 ^ 31) (hb : b < 2 ^ 31) (h : ¬ nI a < nI b) : b ≤ a := (nI_leI hb ha).mp (Int32.not_lt.mp h)
/-- what has been read comes to the same as from the beginning -/
def RTW (bt : Nat → Int32) (n mo d s : Nat) (cs rs : List Int32) (m0 p k : Nat) (f : Nat → Int32) : Prop := ∃ c1 r1, STP k f c1 ∧ ∀ r, RT bt n m0 d 0 p c1 r1 r → RT bt n mo d 0 s cs rs r
/-- a line's row before and behind its head -/
def HD9 (f : Nat → Int32) (b : Nat) : Prop := f (b + 1) = -9 ∧ f (b + 2) = -9 ∧ f (b + 3) = -9
def HDW (f g : Nat → Int32) (b : Nat) (x y z : Int32) : Prop := g (b + 1) = x ∧ g (b + 2) = y ∧ g (b + 3) = z ∧ ∀ j, ¬ j = b + 1 → ¬ j = b + 2 → ¬ j = b + 3 → g j = f j
theorem HDW.w1 {f : Nat → Int32} {b : Nat} {x : Int32} (h : HD9 f b) : HDW f (upd f (b + 1) x) b x (-9) (-9) :=
  ⟨upd_eq rfl, (upd_ne (by omega)).trans h.2.1, (upd_ne (by omega)).trans h.2.2, fun j h1 _ _ => upd_ne h1⟩
theorem HDW.w2 {f : Nat → Int32} {b : Nat} {x y : Int32} (h : HD9 f b) : HDW f (upd (upd f (b + 1) x) (b + 2) y) b x y (-9) :=
  ⟨(upd_ne (by omega)).trans (upd_eq rfl), upd_eq rfl, (upd_ne (by omega)).trans ((upd_ne (by omega)).trans h.2.2), fun j h1 h2 _ => (upd_ne h2).trans (upd_ne h1)⟩
theorem HDW.w3 {f : Nat → Int32} {b : Nat} {x y z : Int32} : HDW f (upd (upd (upd f (b + 1) x) (b + 2) y) (b + 3) z) b x y z :=
  ⟨(upd_ne (by omega)).trans ((upd_ne (by omega)).trans (upd_eq rfl)), (upd_ne (by omega)).trans (upd_eq rfl), upd_eq rfl, fun j h1 h2 h3 => (upd_ne h3).trans ((upd_ne h2).trans (upd_ne h1))⟩
/-- a line's row -/
def LRW (g : Nat → Int32) (b : Nat) (ln : LNT) : Prop := g b = nI ln.1 ∧ g (b + 1) = ln.2.1 ∧ g (b + 2) = ln.2.2.1 ∧ g (b + 3) = ln.2.2.2.1 ∧ g (b + 4) = nI ln.2.2.2.2.1 ∧ g (b + 5) = nI ln.2.2.2.2.2.1 ∧ g (b + 6) = nI (ln.2.2.2.2.2.2.1 - ln.2.2.2.2.2.1)
def LNW (f g : Nat → Int32) (k : Nat) (ln : LNT) : Prop := (∀ j, j < k * 7 → g j = f j) ∧ LRW g (k * 7) ln
/-- the lines' table holds these -/
def LNS (k : Nat) (f : Nat → Int32) (ls : List LNT) : Prop := ls.length = k ∧ ∀ i, i < k → LRW f (i * 7) (ls.getD i LN0)
theorem LNS.zero {f : Nat → Int32} : LNS 0 f [] := ⟨rfl, fun i h => absurd h (Nat.not_lt_zero i)⟩
theorem LRW.ext {f g : Nat → Int32} {b : Nat} {ln : LNT} (h : LRW f b ln) (e : ∀ j, j < 7 → g (b + j) = f (b + j)) : LRW g b ln :=
  ⟨(e 0 (by omega)).trans h.1, (e 1 (by omega)).trans h.2.1, (e 2 (by omega)).trans h.2.2.1, (e 3 (by omega)).trans h.2.2.2.1, (e 4 (by omega)).trans h.2.2.2.2.1, (e 5 (by omega)).trans h.2.2.2.2.2.1, (e 6 (by omega)).trans h.2.2.2.2.2.2⟩
theorem LNS.push {k : Nat} {f g : Nat → Int32} {ls : List LNT} {ln : LNT} (h : LNS k f ls) (h2 : LNW f g k ln) : LNS (k + 1) g (ls ++ [ln]) := by
  obtain ⟨h1, h3⟩ := h
  obtain ⟨h4, h5⟩ := h2
  refine ⟨by rw [List.length_append, h1]; rfl, fun i hi => ?_⟩
  by_cases c : i = k
  · subst c
    rw [List.getD_eq_getElem?_getD, List.getElem?_append_right (by omega), h1, Nat.sub_self]
    exact h5
  · have e : (ls ++ [ln]).getD i LN0 = ls.getD i LN0 := by rw [List.getD_eq_getElem?_getD, List.getD_eq_getElem?_getD, List.getElem?_append_left (by omega)]
    rw [e]
    exact (h3 i (by omega)).ext fun j hj => h4 _ (by omega)
theorem HDQ.a0 {so M : Nat} (hM : (if so = 0 ∨ so = 1 then 99 else if so = 2 then 7 else 9) = M) (h : NML bt n M s = none) : HDQ bt n so s (0, s, -9, -9, -9) := by
  subst hM
  exact Or.inl ⟨h, rfl⟩
theorem HDQ.a1 {so M a : Nat} (hM : (if so = 0 ∨ so = 1 then 99 else if so = 2 then 7 else 9) = M) (hs : so = 1 ∨ so = 3) (h : NML bt n M s = some a) : HDQ bt n so s (1, NXT bt n s, nI a, -9, -9) := by
  subst hM
  exact Or.inr ⟨a, h, Or.inl ⟨hs, rfl⟩⟩
theorem HDQ.t1 {a : Nat} (h : NML bt n 99 s = some a) (h2 : ¬ WRD bt n (NXT bt n s) 5) : HDQ bt n 0 s (0, NXT bt n s, -9, -9, -9) := Or.inr ⟨a, h, Or.inr (Or.inl ⟨rfl, Or.inl ⟨h2, rfl⟩⟩)⟩
theorem HDQ.t2 {a : Nat} (h : NML bt n 99 s = some a) (h2 : WRD bt n (NXT bt n s) 5) (h3 : NML bt n 7 (NXT bt n (NXT bt n s)) = none) : HDQ bt n 0 s (0, NXT bt n (NXT bt n s), -9, -9, -9) := Or.inr ⟨a, h, Or.inr (Or.inl ⟨rfl, Or.inr ⟨h2, Or.inl ⟨h3, rfl⟩⟩⟩)⟩
theorem HDQ.t3 {a b : Nat} (h : NML bt n 99 s = some a) (h2 : WRD bt n (NXT bt n s) 5) (h3 : NML bt n 7 (NXT bt n (NXT bt n s)) = some b) (h4 : ¬ WRD bt n (NXT bt n (NXT bt n (NXT bt n s))) 6) : HDQ bt n 0 s (0, NXT bt n (NXT bt n (NXT bt n s)), -9, -9, -9) := Or.inr ⟨a, h, Or.inr (Or.inl ⟨rfl, Or.inr ⟨h2, Or.inr ⟨b, h3, Or.inl ⟨h4, rfl⟩⟩⟩⟩)⟩
theorem HDQ.t4 {a b : Nat} (h : NML bt n 99 s = some a) (h2 : WRD bt n (NXT bt n s) 5) (h3 : NML bt n 7 (NXT bt n (NXT bt n s)) = some b) (h4 : WRD bt n (NXT bt n (NXT bt n (NXT bt n s))) 6) (h5 : NML bt n 7 (NXT bt n (NXT bt n (NXT bt n (NXT bt n s)))) = none) : HDQ bt n 0 s (0, NXT bt n (NXT bt n (NXT bt n (NXT bt n s))), -9, -9, -9) := Or.inr ⟨a, h, Or.inr (Or.inl ⟨rfl, Or.inr ⟨h2, Or.inr ⟨b, h3, Or.inr ⟨h4, Or.inl ⟨h5, rfl⟩⟩⟩⟩⟩)⟩
theorem HDQ.t5 {a b c : Nat} (h : NML bt n 99 s = some a) (h2 : WRD bt n (NXT bt n s) 5) (h3 : NML bt n 7 (NXT bt n (NXT bt n s)) = some b) (h4 : WRD bt n (NXT bt n (NXT bt n (NXT bt n s))) 6) (h5 : NML bt n 7 (NXT bt n (NXT bt n (NXT bt n (NXT bt n s)))) = some c) : HDQ bt n 0 s (1, NXT bt n (NXT bt n (NXT bt n (NXT bt n (NXT bt n s)))), nI a, nI b, nI c) := Or.inr ⟨a, h, Or.inr (Or.inl ⟨rfl, Or.inr ⟨h2, Or.inr ⟨b, h3, Or.inr ⟨h4, Or.inr ⟨c, h5, rfl⟩⟩⟩⟩⟩)⟩
theorem HDQ.q1 {a : Nat} (h : NML bt n 7 s = some a) (h2 : ¬ WRD bt n (NXT bt n s) 7) : HDQ bt n 2 s (0, NXT bt n s, -9, -9, -9) := Or.inr ⟨a, h, Or.inr (Or.inr ⟨rfl, Or.inl ⟨h2, rfl⟩⟩)⟩
theorem HDQ.q2 {a : Nat} (h : NML bt n 7 s = some a) (h2 : WRD bt n (NXT bt n s) 7) (h3 : NML bt n 999 (NXT bt n (NXT bt n s)) = none) : HDQ bt n 2 s (0, NXT bt n (NXT bt n s), -9, -9, -9) := Or.inr ⟨a, h, Or.inr (Or.inr ⟨rfl, Or.inr ⟨h2, Or.inl ⟨h3, rfl⟩⟩⟩)⟩
theorem HDQ.q3 {a b : Nat} (h : NML bt n 7 s = some a) (h2 : WRD bt n (NXT bt n s) 7) (h3 : NML bt n 999 (NXT bt n (NXT bt n s)) = some b) : HDQ bt n 2 s (1, NXT bt n (NXT bt n (NXT bt n s)), nI a, nI b, -9) := Or.inr ⟨a, h, Or.inr (Or.inr ⟨rfl, Or.inr ⟨h2, Or.inr ⟨b, h3, rfl⟩⟩⟩)⟩
theorem HDQ.gt {so : Nat} {p : Nat} {x y z : Int32} (h : HDQ bt n so s (1, p, x, y, z)) (hs : s ≤ n) : s ≤ p ∧ p ≤ n := by
  rcases h with ⟨-, h⟩ | ⟨a, h1, h⟩
  · exact absurd (show (1 : Nat) = 0 from congrArg Prod.fst h) (by decide)
  · have a1 := NML.len h1 hs
    rcases h with ⟨-, h⟩ | ⟨-, h⟩ | ⟨-, h⟩
    · have e : p = NXT bt n s := congrArg (fun q => q.2.1) h
      omega
    · rcases h with ⟨-, h⟩ | ⟨w1, h⟩
      · exact absurd (show (1 : Nat) = 0 from congrArg Prod.fst h) (by decide)
      · have a2 := w1.len a1.2
        rcases h with ⟨-, h⟩ | ⟨b, h2, h⟩
        · exact absurd (show (1 : Nat) = 0 from congrArg Prod.fst h) (by decide)
        · have a3 := NML.len h2 a2.2
          rcases h with ⟨-, h⟩ | ⟨w2, h⟩
          · exact absurd (show (1 : Nat) = 0 from congrArg Prod.fst h) (by decide)
          · have a4 := w2.len a3.2
            rcases h with ⟨-, h⟩ | ⟨c, h3, h⟩
            · exact absurd (show (1 : Nat) = 0 from congrArg Prod.fst h) (by decide)
            · have a5 := NML.len h3 a4.2
              have e : p = NXT bt n (NXT bt n (NXT bt n (NXT bt n (NXT bt n s)))) := congrArg (fun q => q.2.1) h
              omega
    · rcases h with ⟨-, h⟩ | ⟨w1, h⟩
      · exact absurd (show (1 : Nat) = 0 from congrArg Prod.fst h) (by decide)
      · have a2 := w1.len a1.2
        rcases h with ⟨-, h⟩ | ⟨b, h2, h⟩
        · exact absurd (show (1 : Nat) = 0 from congrArg Prod.fst h) (by decide)
        · have a3 := NML.len h2 a2.2
          have e : p = NXT bt n (NXT bt n (NXT bt n s)) := congrArg (fun q => q.2.1) h
          omega
/-- a line's row as it is begun, and as it is told at its end -/
def BEG (f : Nat → Int32) (b : Nat) (k : Nat) : Nat → Int32 := upd (upd (upd (upd (upd (upd f (b + 1) (-9)) (b + 2) (-9)) (b + 3) (-9)) (b + 4) 0) (b + 5) (nI k)) (b + 6) 0
theorem BEG.h9 {f : Nat → Int32} {b k : Nat} {v : Int32} : HD9 (upd (BEG f b k) b v) b := by
  unfold BEG
  exact ⟨(upd_ne (by omega)).trans ((upd_ne (by omega)).trans ((upd_ne (by omega)).trans ((upd_ne (by omega)).trans ((upd_ne (by omega)).trans ((upd_ne (by omega)).trans (upd_eq rfl)))))), (upd_ne (by omega)).trans ((upd_ne (by omega)).trans ((upd_ne (by omega)).trans ((upd_ne (by omega)).trans ((upd_ne (by omega)).trans (upd_eq rfl))))), (upd_ne (by omega)).trans ((upd_ne (by omega)).trans ((upd_ne (by omega)).trans ((upd_ne (by omega)).trans (upd_eq rfl))))⟩
theorem BEG.lo {f : Nat → Int32} {b k j : Nat} {v : Int32} (h : j < b) : upd (BEG f b k) b v j = f j := by
  unfold BEG
  exact (upd_ne (by omega)).trans ((upd_ne (by omega)).trans ((upd_ne (by omega)).trans ((upd_ne (by omega)).trans ((upd_ne (by omega)).trans ((upd_ne (by omega)).trans (upd_ne (by omega)))))))
theorem BEG.v {f : Nat → Int32} {b k : Nat} {v : Int32} : upd (BEG f b k) b v b = v ∧ upd (BEG f b k) b v (b + 4) = 0 ∧ upd (BEG f b k) b v (b + 5) = nI k ∧ upd (BEG f b k) b v (b + 6) = 0 := by
  unfold BEG
  exact ⟨upd_eq rfl, (upd_ne (by omega)).trans ((upd_ne (by omega)).trans ((upd_ne (by omega)).trans (upd_eq rfl))), (upd_ne (by omega)).trans ((upd_ne (by omega)).trans (upd_eq rfl)), (upd_ne (by omega)).trans (upd_eq rfl)⟩
theorem LNW.no {f g : Nat → Int32} {k so c : Nat} {x y z : Int32} (h : HDW (upd (BEG f (k * 7) c) (k * 7) (nI so)) g (k * 7) x y z) (a b : Nat) : LNW f g k (so, x, y, z, 0, c, c, a, b) := by
  obtain ⟨h1, h2, h3, h4⟩ := h
  have v := BEG.v (f := f) (b := k * 7) (k := c) (v := nI so)
  exact ⟨fun j hj => (h4 j (by omega) (by omega) (by omega)).trans (BEG.lo hj), (h4 _ (by omega) (by omega) (by omega)).trans v.1, h1, h2, h3, (h4 _ (by omega) (by omega) (by omega)).trans v.2.1, (h4 _ (by omega) (by omega) (by omega)).trans v.2.2.1, ((h4 _ (by omega) (by omega) (by omega)).trans v.2.2.2).trans (congrArg nI (Nat.sub_self c).symm)⟩
theorem LNW.yes {f g : Nat → Int32} {k so c e : Nat} {x y z : Int32} (h : HDW (upd (BEG f (k * 7) c) (k * 7) (nI so)) g (k * 7) x y z) (a b : Nat) : LNW f (upd (upd g (k * 7 + 4) 1) (k * 7 + 6) (nI (e - c))) k (so, x, y, z, 1, c, e, a, b) := by
  obtain ⟨h1, h2, h3, h4⟩ := h
  have v := BEG.v (f := f) (b := k * 7) (k := c) (v := nI so)
  have q : ∀ j, ¬ j = k * 7 + 4 → ¬ j = k * 7 + 6 → upd (upd g (k * 7 + 4) 1) (k * 7 + 6) (nI (e - c)) j = g j := fun j a b => (upd_ne b).trans (upd_ne a)
  exact ⟨fun j hj => (q j (by omega) (by omega)).trans ((h4 j (by omega) (by omega) (by omega)).trans (BEG.lo hj)), (q _ (by omega) (by omega)).trans ((h4 _ (by omega) (by omega) (by omega)).trans v.1), (q _ (by omega) (by omega)).trans h1, (q _ (by omega) (by omega)).trans h2, (q _ (by omega) (by omega)).trans h3, (upd_ne (by omega)).trans (upd_eq rfl), (q _ (by omega) (by omega)).trans ((h4 _ (by omega) (by omega) (by omega)).trans v.2.2.1), upd_eq rfl⟩
end CKS
section WR
variable {p : Program} {l : Launch} {e : Env} {R : Room} {s : State} {m : MethodId} {args : Array Value} {below : List Frame} {meth : Method} {c : Code} {H : Heap} {locs : List Loc} {cells slots : Nat} {Q : State → Prop}
variable {pc : Nat} {ls : Array Slot} {rest : List Value} {G : GG} {ws : va_W} {A : Nat → Prop} {y0 : MethodName} {b0 : ByteArray} {mL0 : Nat} {rt0 : Option FieldType} {a : Nat} {H0 : Heap}
theorem gX10_byteAt_0 : (decode cX10_byteAt 0 = .ok (.iload_n 1, 1)) ∧ (decode cX10_byteAt 1 = .ok (.ifCond .lt 29, 3)) ∧ (decode cX10_byteAt 4 = .ok (.iload_n 1, 1)) ∧ (decode cX10_byteAt 5 = .ok (.aload_n 0, 1)) ∧ (decode cX10_byteAt 6 = .ok (.getfield 27, 3)) ∧ (decode cX10_byteAt 9 = .ok (.if_icmp .ge 21, 3)) ∧ (decode cX10_byteAt 12 = .ok (.iload_n 1, 1)) ∧ (decode cX10_byteAt 13 = .ok (.aload_n 0, 1)) ∧ (decode cX10_byteAt 14 = .ok (.getfield 9, 3)) ∧ (decode cX10_byteAt 17 = .ok (.arraylength, 1)) := by decide +kernel
theorem gX10_byteAt_1 : (decode cX10_byteAt 18 = .ok (.if_icmp .ge 12, 3)) ∧ (decode cX10_byteAt 21 = .ok (.aload_n 0, 1)) ∧ (decode cX10_byteAt 22 = .ok (.getfield 9, 3)) ∧ (decode cX10_byteAt 25 = .ok (.iload_n 1, 1)) ∧ (decode cX10_byteAt 26 = .ok (.iaload, 1)) ∧ (decode cX10_byteAt 27 = .ok (.goto 4, 3)) ∧ (decode cX10_byteAt 30 = .ok (.iconst (-1), 1)) ∧ (decode cX10_byteAt 31 = .ok (.ireturn, 1)) := by decide +kernel
theorem gX10_isLetter_0 : (decode cX10_isLetter 0 = .ok (.iload_n 0, 1)) ∧ (decode cX10_isLetter 1 = .ok (.bipush 97, 2)) ∧ (decode cX10_isLetter 3 = .ok (.bipush 122, 2)) ∧ (decode cX10_isLetter 5 = .ok (.invokestatic 89, 3)) ∧ (decode cX10_isLetter 8 = .ok (.ireturn, 1)) := by decide +kernel
theorem nm_50 : Cond.methodLinkNest RX10 89 yX11_within RX11 ∈ NestW := List.mem_of_getElem? (i := 50) rfl
theorem si_X10_89 : SSN RX10 RX11 89 yX11_within cX11_within 3 (some .boolean) 3 := ⟨⟨nm_50, m_293, m_102, m_294⟩, ⟨nK_RX11.1, nK_RX11.2, pd_0⟩⟩
theorem gX10_isDigit_0 : (decode cX10_isDigit 0 = .ok (.iload_n 0, 1)) ∧ (decode cX10_isDigit 1 = .ok (.bipush 48, 2)) ∧ (decode cX10_isDigit 3 = .ok (.bipush 57, 2)) ∧ (decode cX10_isDigit 5 = .ok (.invokestatic 89, 3)) ∧ (decode cX10_isDigit 8 = .ok (.ireturn, 1)) := by decide +kernel
theorem gX10_refuse_0 : (decode cX10_refuse 0 = .ok (.aload_n 0, 1)) ∧ (decode cX10_refuse 1 = .ok (.aload_n 0, 1)) ∧ (decode cX10_refuse 2 = .ok (.getfield 34, 3)) ∧ (decode cX10_refuse 5 = .ok (.putfield 40, 3)) ∧ (decode cX10_refuse 8 = .ok (.iconst 0, 1)) ∧ (decode cX10_refuse 9 = .ok (.ireturn, 1)) := by decide +kernel
theorem m_234 : Cond.fieldLink RX10 34 "InquiryBench$Tape" "start" "I" ∈ BW := iB_BW13 _ (List.mem_of_getElem? (i := 0) rfl)
theorem gf_X10_34 (hC : CX p s m meth c y0 b0 mL0 rt0 args) (hy0 : y0.cls = RX10) (hK : KK G s) (hP : va_P G.1 vwCl ws H) (q0 : Nat) {fs : List Value} {v : Value} (he : ws[q0]? = some (a, .inr (10, fs))) (hv : fs[5]? = some v) (hdg : decode b0 pc = .ok (.getfield 34, 3)) (kk : W p l e R s m args below meth c H locs cells slots Q (F0 m (pc + 3) ls (v :: rest))) : W p l e R s m args below meth c H locs cells slots Q (F0 m pc ls (.ref a :: rest)) := by
  obtain ⟨hx, hb, hr, hml, hB, hown, hlocks, hnm⟩ := hC
  rw [hy0] at hown
  exact va_get (ci := 10) (C := RX10) (T := TX10) (N := 8) hx hb hB in_X10 hown hK.1 hP q0 he rfl 5 (by decide) (hB _ m_234) (fun _ h => h) hv hdg kk
theorem m_236 : Cond.fieldLink RX10 40 "InquiryBench$Tape" "fault" "I" ∈ BW := iB_BW13 _ (List.mem_of_getElem? (i := 2) rfl)
theorem pf_X10_40 (hC : CX p s m meth c y0 b0 mL0 rt0 args) (hy0 : y0.cls = RX10) (hK : KK G s) (hP : va_P G.1 vwCl ws H) (hD : va_D A ws) (hS : va_S A H0 H locs) (q0 : Nat) {fs : List Value} {v : Value} {ws' : va_W} (he : ws[q0]? = some (a, .inr (10, fs))) (hl : 7 < fs.length) (hws : ws.set q0 (a, .inr (10, fs.set 7 v)) = ws') (hn : narrow .int v = v) (hfit : fits .int v = true) (hdg : decode b0 pc = .ok (.putfield 40, 3)) (kk : ∀ (H1 : Heap) (locs1 : List Loc), va_P G.1 vwCl ws' H1 → va_D A ws' → va_S A H0 H1 locs1 → W p l e R s m args below meth c H1 locs1 cells slots Q (F0 m (pc + 3) ls rest)) : W p l e R s m args below meth c H locs cells slots Q (F0 m pc ls (v :: .ref a :: rest)) := by
  obtain ⟨hx, hb, hr, hml, hB, hown, hlocks, hnm⟩ := hC
  rw [hy0] at hown
  subst hws
  exact va_put (ci := 10) (ty := .int) (C := RX10) (T := TX10) (N := 8) hx hb hB in_X10 tyX10 tyX10_ok nmX10 hown hK.1 hP hD hS q0 he rfl 7 (by decide) (hB _ m_236) (fun _ h => h) rfl (by decide +kernel) hn hfit hl hdg kk
theorem gX10_clear_0 : (decode cX10_clear 0 = .ok (.aload_n 0, 1)) ∧ (decode cX10_clear 1 = .ok (.iconst 0, 1)) ∧ (decode cX10_clear 2 = .ok (.putfield 27, 3)) ∧ (decode cX10_clear 5 = .ok (.return_, 1)) := by decide +kernel
theorem gX10_advance_0 : (decode cX10_advance 0 = .ok (.aload_n 0, 1)) ∧ (decode cX10_advance 1 = .ok (.aload_n 0, 1)) ∧ (decode cX10_advance 2 = .ok (.getfield 37, 3)) ∧ (decode cX10_advance 5 = .ok (.putfield 34, 3)) ∧ (decode cX10_advance 8 = .ok (.aload_n 0, 1)) ∧ (decode cX10_advance 9 = .ok (.getfield 34, 3)) ∧ (decode cX10_advance 12 = .ok (.aload_n 0, 1)) ∧ (decode cX10_advance 13 = .ok (.getfield 27, 3)) ∧ (decode cX10_advance 16 = .ok (.if_icmp .ge 29, 3)) ∧ (decode cX10_advance 19 = .ok (.aload_n 0, 1)) := by decide +kernel
theorem m_235 : Cond.fieldLink RX10 37 "InquiryBench$Tape" "next" "I" ∈ BW := iB_BW13 _ (List.mem_of_getElem? (i := 1) rfl)
theorem gf_X10_37 (hC : CX p s m meth c y0 b0 mL0 rt0 args) (hy0 : y0.cls = RX10) (hK : KK G s) (hP : va_P G.1 vwCl ws H) (q0 : Nat) {fs : List Value} {v : Value} (he : ws[q0]? = some (a, .inr (10, fs))) (hv : fs[6]? = some v) (hdg : decode b0 pc = .ok (.getfield 37, 3)) (kk : W p l e R s m args below meth c H locs cells slots Q (F0 m (pc + 3) ls (v :: rest))) : W p l e R s m args below meth c H locs cells slots Q (F0 m pc ls (.ref a :: rest)) := by
  obtain ⟨hx, hb, hr, hml, hB, hown, hlocks, hnm⟩ := hC
  rw [hy0] at hown
  exact va_get (ci := 10) (C := RX10) (T := TX10) (N := 8) hx hb hB in_X10 hown hK.1 hP q0 he rfl 6 (by decide) (hB _ m_235) (fun _ h => h) hv hdg kk
theorem pf_X10_34 (hC : CX p s m meth c y0 b0 mL0 rt0 args) (hy0 : y0.cls = RX10) (hK : KK G s) (hP : va_P G.1 vwCl ws H) (hD : va_D A ws) (hS : va_S A H0 H locs) (q0 : Nat) {fs : List Value} {v : Value} {ws' : va_W} (he : ws[q0]? = some (a, .inr (10, fs))) (hl : 5 < fs.length) (hws : ws.set q0 (a, .inr (10, fs.set 5 v)) = ws') (hn : narrow .int v = v) (hfit : fits .int v = true) (hdg : decode b0 pc = .ok (.putfield 34, 3)) (kk : ∀ (H1 : Heap) (locs1 : List Loc), va_P G.1 vwCl ws' H1 → va_D A ws' → va_S A H0 H1 locs1 → W p l e R s m args below meth c H1 locs1 cells slots Q (F0 m (pc + 3) ls rest)) : W p l e R s m args below meth c H locs cells slots Q (F0 m pc ls (v :: .ref a :: rest)) := by
  obtain ⟨hx, hb, hr, hml, hB, hown, hlocks, hnm⟩ := hC
  rw [hy0] at hown
  subst hws
  exact va_put (ci := 10) (ty := .int) (C := RX10) (T := TX10) (N := 8) hx hb hB in_X10 tyX10 tyX10_ok nmX10 hown hK.1 hP hD hS q0 he rfl 5 (by decide) (hB _ m_234) (fun _ h => h) rfl (by decide +kernel) hn hfit hl hdg kk
theorem gX10_advance_2 : (decode cX10_advance 39 = .ok (.putfield 34, 3)) ∧ (decode cX10_advance 42 = .ok (.goto (-34), 3)) ∧ (decode cX10_advance 45 = .ok (.aload_n 0, 1)) ∧ (decode cX10_advance 46 = .ok (.aload_n 0, 1)) ∧ (decode cX10_advance 47 = .ok (.getfield 34, 3)) ∧ (decode cX10_advance 50 = .ok (.putfield 37, 3)) ∧ (decode cX10_advance 53 = .ok (.aload_n 0, 1)) ∧ (decode cX10_advance 54 = .ok (.aload_n 0, 1)) ∧ (decode cX10_advance 55 = .ok (.getfield 34, 3)) ∧ (decode cX10_advance 58 = .ok (.invokevirtual 78, 3)) := by decide +kernel
theorem pf_X10_37 (hC : CX p s m meth c y0 b0 mL0 rt0 args) (hy0 : y0.cls = RX10) (hK : KK G s) (hP : va_P G.1 vwCl ws H) (hD : va_D A ws) (hS : va_S A H0 H locs) (q0 : Nat) {fs : List Value} {v : Value} {ws' : va_W} (he : ws[q0]? = some (a, .inr (10, fs))) (hl : 6 < fs.length) (hws : ws.set q0 (a, .inr (10, fs.set 6 v)) = ws') (hn : narrow .int v = v) (hfit : fits .int v = true) (hdg : decode b0 pc = .ok (.putfield 37, 3)) (kk : ∀ (H1 : Heap) (locs1 : List Loc), va_P G.1 vwCl ws' H1 → va_D A ws' → va_S A H0 H1 locs1 → W p l e R s m args below meth c H1 locs1 cells slots Q (F0 m (pc + 3) ls rest)) : W p l e R s m args below meth c H locs cells slots Q (F0 m pc ls (v :: .ref a :: rest)) := by
  obtain ⟨hx, hb, hr, hml, hB, hown, hlocks, hnm⟩ := hC
  rw [hy0] at hown
  subst hws
  exact va_put (ci := 10) (ty := .int) (C := RX10) (T := TX10) (N := 8) hx hb hB in_X10 tyX10 tyX10_ok nmX10 hown hK.1 hP hD hS q0 he rfl 6 (by decide) (hB _ m_235) (fun _ h => h) rfl (by decide +kernel) hn hfit hl hdg kk
theorem m_629 : Cond.code yX10_byteAt cX10_byteAt 2 (some .int) ∈ BW := iB_BW34 _ (List.mem_of_getElem? (i := 9) rfl)
theorem m_627 : Cond.methodLink RX10 78 yX10_byteAt ∈ BW := iB_BW34 _ (List.mem_of_getElem? (i := 7) rfl)
theorem m_628 : Cond.instanceMethod yX10_byteAt ∈ BW := iB_BW34 _ (List.mem_of_getElem? (i := 8) rfl)
theorem m_15 : Cond.selects RX10 yX10_byteAt yX10_byteAt ∈ BW := iB_BW0 _ (List.mem_of_getElem? (i := 15) rfl)
theorem si_X10_78 : SV RX10 RX10 78 yX10_byteAt cX10_byteAt 2 (some .int) 1 := ⟨⟨m_627, m_628, m_15, m_111, m_629⟩, rfl, nK_RX10.1, nK_RX10.2, pd_7⟩
theorem gX10_advance_3 : (decode cX10_advance 61 = .ok (.invokestatic 82, 3)) ∧ (decode cX10_advance 64 = .ok (.ifCond .eq 47, 3)) ∧ (decode cX10_advance 67 = .ok (.aload_n 0, 1)) ∧ (decode cX10_advance 68 = .ok (.bipush (-2), 2)) ∧ (decode cX10_advance 70 = .ok (.putfield 31, 3)) ∧ (decode cX10_advance 73 = .ok (.aload_n 0, 1)) ∧ (decode cX10_advance 74 = .ok (.getfield 37, 3)) ∧ (decode cX10_advance 77 = .ok (.aload_n 0, 1)) ∧ (decode cX10_advance 78 = .ok (.getfield 27, 3)) ∧ (decode cX10_advance 81 = .ok (.if_icmp .ge 118, 3)) := by decide +kernel
theorem m_632 : Cond.code yX10_isLetter cX10_isLetter 1 (some .boolean) ∈ BW := iB_BW34 _ (List.mem_of_getElem? (i := 12) rfl)
theorem m_630 : Cond.methodLink RX10 82 yX10_isLetter ∈ BW := iB_BW34 _ (List.mem_of_getElem? (i := 10) rfl)
theorem m_631 : Cond.static yX10_isLetter ∈ BW := iB_BW34 _ (List.mem_of_getElem? (i := 11) rfl)
theorem si_X10_82 : SS RX10 82 yX10_isLetter cX10_isLetter 1 (some .boolean) 1 := ⟨⟨m_630, m_631, m_111, m_632⟩, ⟨nK_RX10.1, nK_RX10.2, pd_5⟩⟩
theorem gX10_advance_5 : (decode cX10_advance 104 = .ok (.iadd, 1)) ∧ (decode cX10_advance 105 = .ok (.putfield 37, 3)) ∧ (decode cX10_advance 108 = .ok (.goto (-35), 3)) ∧ (decode cX10_advance 111 = .ok (.aload_n 0, 1)) ∧ (decode cX10_advance 112 = .ok (.aload_n 0, 1)) ∧ (decode cX10_advance 113 = .ok (.getfield 34, 3)) ∧ (decode cX10_advance 116 = .ok (.invokevirtual 78, 3)) ∧ (decode cX10_advance 119 = .ok (.invokestatic 86, 3)) ∧ (decode cX10_advance 122 = .ok (.ifCond .eq 47, 3)) ∧ (decode cX10_advance 125 = .ok (.aload_n 0, 1)) := by decide +kernel
theorem m_635 : Cond.code yX10_isDigit cX10_isDigit 1 (some .boolean) ∈ BW := iB_BW34 _ (List.mem_of_getElem? (i := 15) rfl)
theorem m_633 : Cond.methodLink RX10 86 yX10_isDigit ∈ BW := iB_BW34 _ (List.mem_of_getElem? (i := 13) rfl)
theorem m_634 : Cond.static yX10_isDigit ∈ BW := iB_BW34 _ (List.mem_of_getElem? (i := 14) rfl)
theorem si_X10_86 : SS RX10 86 yX10_isDigit cX10_isDigit 1 (some .boolean) 1 := ⟨⟨m_633, m_634, m_111, m_635⟩, ⟨nK_RX10.1, nK_RX10.2, pd_5⟩⟩
theorem gX10_advance_8 : (decode cX10_advance 169 = .ok (.aload_n 0, 1)) ∧ (decode cX10_advance 170 = .ok (.aload_n 0, 1)) ∧ (decode cX10_advance 171 = .ok (.aload_n 0, 1)) ∧ (decode cX10_advance 172 = .ok (.getfield 34, 3)) ∧ (decode cX10_advance 175 = .ok (.invokevirtual 78, 3)) ∧ (decode cX10_advance 178 = .ok (.putfield 31, 3)) ∧ (decode cX10_advance 181 = .ok (.aload_n 0, 1)) ∧ (decode cX10_advance 182 = .ok (.getfield 31, 3)) ∧ (decode cX10_advance 185 = .ok (.iconst (-1), 1)) ∧ (decode cX10_advance 186 = .ok (.if_icmp .eq 13, 3)) := by decide +kernel
theorem m_233 : Cond.fieldLink RX10 31 "InquiryBench$Tape" "kind" "I" ∈ BW := iB_BW12 _ (List.mem_of_getElem? (i := 19) rfl)
theorem pf_X10_31 (hC : CX p s m meth c y0 b0 mL0 rt0 args) (hy0 : y0.cls = RX10) (hK : KK G s) (hP : va_P G.1 vwCl ws H) (hD : va_D A ws) (hS : va_S A H0 H locs) (q0 : Nat) {fs : List Value} {v : Value} {ws' : va_W} (he : ws[q0]? = some (a, .inr (10, fs))) (hl : 4 < fs.length) (hws : ws.set q0 (a, .inr (10, fs.set 4 v)) = ws') (hn : narrow .int v = v) (hfit : fits .int v = true) (hdg : decode b0 pc = .ok (.putfield 31, 3)) (kk : ∀ (H1 : Heap) (locs1 : List Loc), va_P G.1 vwCl ws' H1 → va_D A ws' → va_S A H0 H1 locs1 → W p l e R s m args below meth c H1 locs1 cells slots Q (F0 m (pc + 3) ls rest)) : W p l e R s m args below meth c H locs cells slots Q (F0 m pc ls (v :: .ref a :: rest)) := by
  obtain ⟨hx, hb, hr, hml, hB, hown, hlocks, hnm⟩ := hC
  rw [hy0] at hown
  subst hws
  exact va_put (ci := 10) (ty := .int) (C := RX10) (T := TX10) (N := 8) hx hb hB in_X10 tyX10 tyX10_ok nmX10 hown hK.1 hP hD hS q0 he rfl 4 (by decide) (hB _ m_233) (fun _ h => h) rfl (by decide +kernel) hn hfit hl hdg kk
theorem gf_X10_31 (hC : CX p s m meth c y0 b0 mL0 rt0 args) (hy0 : y0.cls = RX10) (hK : KK G s) (hP : va_P G.1 vwCl ws H) (q0 : Nat) {fs : List Value} {v : Value} (he : ws[q0]? = some (a, .inr (10, fs))) (hv : fs[4]? = some v) (hdg : decode b0 pc = .ok (.getfield 31, 3)) (kk : W p l e R s m args below meth c H locs cells slots Q (F0 m (pc + 3) ls (v :: rest))) : W p l e R s m args below meth c H locs cells slots Q (F0 m pc ls (.ref a :: rest)) := by
  obtain ⟨hx, hb, hr, hml, hB, hown, hlocks, hnm⟩ := hC
  rw [hy0] at hown
  exact va_get (ci := 10) (C := RX10) (T := TX10) (N := 8) hx hb hB in_X10 hown hK.1 hP q0 he rfl 4 (by decide) (hB _ m_233) (fun _ h => h) hv hdg kk
theorem gX10_advance_9 : (decode cX10_advance 189 = .ok (.aload_n 0, 1)) ∧ (decode cX10_advance 190 = .ok (.dup, 1)) ∧ (decode cX10_advance 191 = .ok (.getfield 37, 3)) ∧ (decode cX10_advance 194 = .ok (.iconst 1, 1)) ∧ (decode cX10_advance 195 = .ok (.iadd, 1)) ∧ (decode cX10_advance 196 = .ok (.putfield 37, 3)) ∧ (decode cX10_advance 199 = .ok (.return_, 1)) := by decide +kernel
theorem gX10_advance_1 : (decode cX10_advance 20 = .ok (.aload_n 0, 1)) ∧ (decode cX10_advance 21 = .ok (.getfield 34, 3)) ∧ (decode cX10_advance 24 = .ok (.invokevirtual 78, 3)) ∧ (decode cX10_advance 27 = .ok (.bipush 32, 2)) ∧ (decode cX10_advance 29 = .ok (.if_icmp .ne 16, 3)) ∧ (decode cX10_advance 32 = .ok (.aload_n 0, 1)) ∧ (decode cX10_advance 33 = .ok (.dup, 1)) ∧ (decode cX10_advance 34 = .ok (.getfield 34, 3)) ∧ (decode cX10_advance 37 = .ok (.iconst 1, 1)) ∧ (decode cX10_advance 38 = .ok (.iadd, 1)) := by decide +kernel
theorem gX10_advance_4 : (decode cX10_advance 84 = .ok (.aload_n 0, 1)) ∧ (decode cX10_advance 85 = .ok (.aload_n 0, 1)) ∧ (decode cX10_advance 86 = .ok (.getfield 37, 3)) ∧ (decode cX10_advance 89 = .ok (.invokevirtual 78, 3)) ∧ (decode cX10_advance 92 = .ok (.invokestatic 82, 3)) ∧ (decode cX10_advance 95 = .ok (.ifCond .eq 104, 3)) ∧ (decode cX10_advance 98 = .ok (.aload_n 0, 1)) ∧ (decode cX10_advance 99 = .ok (.dup, 1)) ∧ (decode cX10_advance 100 = .ok (.getfield 37, 3)) ∧ (decode cX10_advance 103 = .ok (.iconst 1, 1)) := by decide +kernel
theorem gX10_advance_6 : (decode cX10_advance 126 = .ok (.bipush (-3), 2)) ∧ (decode cX10_advance 128 = .ok (.putfield 31, 3)) ∧ (decode cX10_advance 131 = .ok (.aload_n 0, 1)) ∧ (decode cX10_advance 132 = .ok (.getfield 37, 3)) ∧ (decode cX10_advance 135 = .ok (.aload_n 0, 1)) ∧ (decode cX10_advance 136 = .ok (.getfield 27, 3)) ∧ (decode cX10_advance 139 = .ok (.if_icmp .ge 60, 3)) ∧ (decode cX10_advance 142 = .ok (.aload_n 0, 1)) ∧ (decode cX10_advance 143 = .ok (.aload_n 0, 1)) ∧ (decode cX10_advance 144 = .ok (.getfield 37, 3)) := by decide +kernel
theorem gX10_advance_7 : (decode cX10_advance 147 = .ok (.invokevirtual 78, 3)) ∧ (decode cX10_advance 150 = .ok (.invokestatic 86, 3)) ∧ (decode cX10_advance 153 = .ok (.ifCond .eq 46, 3)) ∧ (decode cX10_advance 156 = .ok (.aload_n 0, 1)) ∧ (decode cX10_advance 157 = .ok (.dup, 1)) ∧ (decode cX10_advance 158 = .ok (.getfield 37, 3)) ∧ (decode cX10_advance 161 = .ok (.iconst 1, 1)) ∧ (decode cX10_advance 162 = .ok (.iadd, 1)) ∧ (decode cX10_advance 163 = .ok (.putfield 37, 3)) ∧ (decode cX10_advance 166 = .ok (.goto (-35), 3)) := by decide +kernel
theorem gX10_isName_0 : (decode cX10_isName 0 = .ok (.aload_n 0, 1)) ∧ (decode cX10_isName 1 = .ok (.getfield 31, 3)) ∧ (decode cX10_isName 4 = .ok (.bipush (-2), 2)) ∧ (decode cX10_isName 6 = .ok (.if_icmp .ne 19, 3)) ∧ (decode cX10_isName 9 = .ok (.aload_n 0, 1)) ∧ (decode cX10_isName 10 = .ok (.getfield 37, 3)) ∧ (decode cX10_isName 13 = .ok (.aload_n 0, 1)) ∧ (decode cX10_isName 14 = .ok (.getfield 34, 3)) ∧ (decode cX10_isName 17 = .ok (.isub, 1)) ∧ (decode cX10_isName 18 = .ok (.aload_n 1, 1)) := by decide +kernel
theorem gX10_isName_1 : (decode cX10_isName 19 = .ok (.invokevirtual 93, 3)) ∧ (decode cX10_isName 22 = .ok (.if_icmp .eq 5, 3)) ∧ (decode cX10_isName 25 = .ok (.iconst 0, 1)) ∧ (decode cX10_isName 26 = .ok (.ireturn, 1)) ∧ (decode cX10_isName 27 = .ok (.iconst 0, 1)) ∧ (decode cX10_isName 28 = .ok (.istore_n 2, 1)) ∧ (decode cX10_isName 29 = .ok (.iload_n 2, 1)) ∧ (decode cX10_isName 30 = .ok (.aload_n 1, 1)) ∧ (decode cX10_isName 31 = .ok (.invokevirtual 93, 3)) ∧ (decode cX10_isName 34 = .ok (.if_icmp .ge 29, 3)) := by decide +kernel
theorem m_654 : Cond.code yJ0_length_8abf5 cJ0_length_8abf5 1 (some .int) ∈ BW := iB_BW35 _ (List.mem_of_getElem? (i := 14) rfl)
theorem m_651 : Cond.methodLink RX10 93 yJ0_length_8abf5 ∈ BW := iB_BW35 _ (List.mem_of_getElem? (i := 11) rfl)
theorem m_652 : Cond.instanceMethod yJ0_length_8abf5 ∈ BW := iB_BW35 _ (List.mem_of_getElem? (i := 12) rfl)
theorem m_653 : Cond.selects RJ0 yJ0_length_8abf5 yJ0_length_8abf5 ∈ BW := iB_BW35 _ (List.mem_of_getElem? (i := 13) rfl)
theorem si_X10_93 : SV RX10 RJ0 93 yJ0_length_8abf5 cJ0_length_8abf5 1 (some .int) 0 := ⟨⟨m_651, m_652, m_653, m_118, m_654⟩, rfl, nK_RJ0.1, nK_RJ0.2, pd_1⟩
theorem gX10_isName_3 : (decode cX10_isName 55 = .ok (.iconst 0, 1)) ∧ (decode cX10_isName 56 = .ok (.ireturn, 1)) ∧ (decode cX10_isName 57 = .ok (.iinc 2 1, 3)) ∧ (decode cX10_isName 60 = .ok (.goto (-31), 3)) ∧ (decode cX10_isName 63 = .ok (.iconst 1, 1)) ∧ (decode cX10_isName 64 = .ok (.ireturn, 1)) := by decide +kernel
theorem gX10_isName_2 : (decode cX10_isName 37 = .ok (.aload_n 0, 1)) ∧ (decode cX10_isName 38 = .ok (.aload_n 0, 1)) ∧ (decode cX10_isName 39 = .ok (.getfield 34, 3)) ∧ (decode cX10_isName 42 = .ok (.iload_n 2, 1)) ∧ (decode cX10_isName 43 = .ok (.iadd, 1)) ∧ (decode cX10_isName 44 = .ok (.invokevirtual 78, 3)) ∧ (decode cX10_isName 47 = .ok (.aload_n 1, 1)) ∧ (decode cX10_isName 48 = .ok (.iload_n 2, 1)) ∧ (decode cX10_isName 49 = .ok (.invokevirtual 98, 3)) ∧ (decode cX10_isName 52 = .ok (.if_icmp .eq 5, 3)) := by decide +kernel
theorem m_663 : Cond.code yJ0_charAt_5068e cJ0_charAt_5068e 2 (some .char) ∈ BW := iB_BW36 _ (List.mem_of_getElem? (i := 3) rfl)
theorem pd_25 : (parseMethodDescriptor "(I)C").map (fun d => d.parameters.length) = some 1 := by decide +kernel
theorem m_660 : Cond.methodLink RX10 98 yJ0_charAt_5068e ∈ BW := iB_BW36 _ (List.mem_of_getElem? (i := 0) rfl)
theorem m_661 : Cond.instanceMethod yJ0_charAt_5068e ∈ BW := iB_BW36 _ (List.mem_of_getElem? (i := 1) rfl)
theorem m_662 : Cond.selects RJ0 yJ0_charAt_5068e yJ0_charAt_5068e ∈ BW := iB_BW36 _ (List.mem_of_getElem? (i := 2) rfl)
theorem si_X10_98 : SV RX10 RJ0 98 yJ0_charAt_5068e cJ0_charAt_5068e 2 (some .char) 1 := ⟨⟨m_660, m_661, m_662, m_118, m_663⟩, rfl, nK_RJ0.1, nK_RJ0.2, pd_25⟩
theorem gX10_takesName_0 : (decode cX10_takesName 0 = .ok (.aload_n 0, 1)) ∧ (decode cX10_takesName 1 = .ok (.aload_n 1, 1)) ∧ (decode cX10_takesName 2 = .ok (.invokevirtual 102, 3)) ∧ (decode cX10_takesName 5 = .ok (.ifCond .ne 8, 3)) ∧ (decode cX10_takesName 8 = .ok (.aload_n 0, 1)) ∧ (decode cX10_takesName 9 = .ok (.invokevirtual 106, 3)) ∧ (decode cX10_takesName 12 = .ok (.ireturn, 1)) ∧ (decode cX10_takesName 13 = .ok (.aload_n 0, 1)) ∧ (decode cX10_takesName 14 = .ok (.invokevirtual 47, 3)) ∧ (decode cX10_takesName 17 = .ok (.iconst 1, 1)) := by decide +kernel
theorem m_650 : Cond.code yX10_isName cX10_isName 3 (some .boolean) ∈ BW := iB_BW35 _ (List.mem_of_getElem? (i := 10) rfl)
theorem pd_26 : (parseMethodDescriptor "(Ljava/lang/String;)Z").map (fun d => d.parameters.length) = some 1 := by decide +kernel
theorem m_648 : Cond.methodLink RX10 102 yX10_isName ∈ BW := iB_BW35 _ (List.mem_of_getElem? (i := 8) rfl)
theorem m_649 : Cond.instanceMethod yX10_isName ∈ BW := iB_BW35 _ (List.mem_of_getElem? (i := 9) rfl)
theorem m_19 : Cond.selects RX10 yX10_isName yX10_isName ∈ BW := iB_BW0 _ (List.mem_of_getElem? (i := 19) rfl)
theorem si_X10_102 : SV RX10 RX10 102 yX10_isName cX10_isName 3 (some .boolean) 1 := ⟨⟨m_648, m_649, m_19, m_111, m_650⟩, rfl, nK_RX10.1, nK_RX10.2, pd_26⟩
theorem m_626 : Cond.code yX10_advance cX10_advance 1 none ∈ BW := iB_BW34 _ (List.mem_of_getElem? (i := 6) rfl)
theorem m_624 : Cond.methodLink RX10 47 yX10_advance ∈ BW := iB_BW34 _ (List.mem_of_getElem? (i := 4) rfl)
theorem m_625 : Cond.instanceMethod yX10_advance ∈ BW := iB_BW34 _ (List.mem_of_getElem? (i := 5) rfl)
theorem m_14 : Cond.selects RX10 yX10_advance yX10_advance ∈ BW := iB_BW0 _ (List.mem_of_getElem? (i := 14) rfl)
theorem si_X10_47 : SV RX10 RX10 47 yX10_advance cX10_advance 1 none 0 := ⟨⟨m_624, m_625, m_14, m_111, m_626⟩, rfl, nK_RX10.1, nK_RX10.2, pd_9⟩
theorem gX10_takesName_1 : (decode cX10_takesName 18 = .ok (.ireturn, 1)) := by decide +kernel
theorem m_642 : Cond.code yX10_refuse cX10_refuse 1 (some .boolean) ∈ BW := iB_BW35 _ (List.mem_of_getElem? (i := 2) rfl)
theorem m_640 : Cond.methodLink RX10 106 yX10_refuse ∈ BW := iB_BW35 _ (List.mem_of_getElem? (i := 0) rfl)
theorem m_641 : Cond.instanceMethod yX10_refuse ∈ BW := iB_BW35 _ (List.mem_of_getElem? (i := 1) rfl)
theorem m_17 : Cond.selects RX10 yX10_refuse yX10_refuse ∈ BW := iB_BW0 _ (List.mem_of_getElem? (i := 17) rfl)
theorem si_X10_106 : SV RX10 RX10 106 yX10_refuse cX10_refuse 1 (some .boolean) 0 := ⟨⟨m_640, m_641, m_17, m_111, m_642⟩, rfl, nK_RX10.1, nK_RX10.2, pd_15⟩
theorem gX10_takesByte_0 : (decode cX10_takesByte 0 = .ok (.aload_n 0, 1)) ∧ (decode cX10_takesByte 1 = .ok (.getfield 31, 3)) ∧ (decode cX10_takesByte 4 = .ok (.iload_n 1, 1)) ∧ (decode cX10_takesByte 5 = .ok (.if_icmp .eq 8, 3)) ∧ (decode cX10_takesByte 8 = .ok (.aload_n 0, 1)) ∧ (decode cX10_takesByte 9 = .ok (.invokevirtual 106, 3)) ∧ (decode cX10_takesByte 12 = .ok (.ireturn, 1)) ∧ (decode cX10_takesByte 13 = .ok (.aload_n 0, 1)) ∧ (decode cX10_takesByte 14 = .ok (.invokevirtual 47, 3)) ∧ (decode cX10_takesByte 17 = .ok (.iconst 1, 1)) := by decide +kernel
theorem gX10_takesByte_1 : (decode cX10_takesByte 18 = .ok (.ireturn, 1)) := by decide +kernel
theorem gX10_numberHere_0 : (decode cX10_numberHere 0 = .ok (.aload_n 0, 1)) ∧ (decode cX10_numberHere 1 = .ok (.getfield 31, 3)) ∧ (decode cX10_numberHere 4 = .ok (.bipush (-3), 2)) ∧ (decode cX10_numberHere 6 = .ok (.if_icmp .ne 16, 3)) ∧ (decode cX10_numberHere 9 = .ok (.aload_n 0, 1)) ∧ (decode cX10_numberHere 10 = .ok (.getfield 37, 3)) ∧ (decode cX10_numberHere 13 = .ok (.aload_n 0, 1)) ∧ (decode cX10_numberHere 14 = .ok (.getfield 34, 3)) ∧ (decode cX10_numberHere 17 = .ok (.isub, 1)) ∧ (decode cX10_numberHere 18 = .ok (.iconst 3, 1)) := by decide +kernel
theorem gX10_numberHere_1 : (decode cX10_numberHere 19 = .ok (.if_icmp .le 5, 3)) ∧ (decode cX10_numberHere 22 = .ok (.iconst (-1), 1)) ∧ (decode cX10_numberHere 23 = .ok (.ireturn, 1)) ∧ (decode cX10_numberHere 24 = .ok (.iconst 0, 1)) ∧ (decode cX10_numberHere 25 = .ok (.istore_n 1, 1)) ∧ (decode cX10_numberHere 26 = .ok (.aload_n 0, 1)) ∧ (decode cX10_numberHere 27 = .ok (.getfield 34, 3)) ∧ (decode cX10_numberHere 30 = .ok (.istore_n 2, 1)) ∧ (decode cX10_numberHere 31 = .ok (.iload_n 2, 1)) ∧ (decode cX10_numberHere 32 = .ok (.aload_n 0, 1)) := by decide +kernel
theorem gX10_numberHere_2 : (decode cX10_numberHere 33 = .ok (.getfield 37, 3)) ∧ (decode cX10_numberHere 36 = .ok (.if_icmp .ge 23, 3)) ∧ (decode cX10_numberHere 39 = .ok (.iload_n 1, 1)) ∧ (decode cX10_numberHere 40 = .ok (.bipush 10, 2)) ∧ (decode cX10_numberHere 42 = .ok (.imul, 1)) ∧ (decode cX10_numberHere 43 = .ok (.aload_n 0, 1)) ∧ (decode cX10_numberHere 44 = .ok (.iload_n 2, 1)) ∧ (decode cX10_numberHere 45 = .ok (.invokevirtual 78, 3)) ∧ (decode cX10_numberHere 48 = .ok (.iadd, 1)) ∧ (decode cX10_numberHere 49 = .ok (.bipush 48, 2)) := by decide +kernel
theorem gX10_numberHere_3 : (decode cX10_numberHere 51 = .ok (.isub, 1)) ∧ (decode cX10_numberHere 52 = .ok (.istore_n 1, 1)) ∧ (decode cX10_numberHere 53 = .ok (.iinc 2 1, 3)) ∧ (decode cX10_numberHere 56 = .ok (.goto (-25), 3)) ∧ (decode cX10_numberHere 59 = .ok (.iload_n 1, 1)) ∧ (decode cX10_numberHere 60 = .ok (.ireturn, 1)) := by decide +kernel
theorem gX10_takesNumber_0 : (decode cX10_takesNumber 0 = .ok (.aload_n 0, 1)) ∧ (decode cX10_takesNumber 1 = .ok (.invokevirtual 109, 3)) ∧ (decode cX10_takesNumber 4 = .ok (.istore 4, 2)) ∧ (decode cX10_takesNumber 6 = .ok (.iload 4, 2)) ∧ (decode cX10_takesNumber 8 = .ok (.iconst 0, 1)) ∧ (decode cX10_takesNumber 9 = .ok (.iload_n 3, 1)) ∧ (decode cX10_takesNumber 10 = .ok (.invokestatic 89, 3)) ∧ (decode cX10_takesNumber 13 = .ok (.ifCond .ne 8, 3)) ∧ (decode cX10_takesNumber 16 = .ok (.aload_n 0, 1)) ∧ (decode cX10_takesNumber 17 = .ok (.invokevirtual 106, 3)) := by decide +kernel
theorem m_702 : Cond.code yX10_numberHere cX10_numberHere 3 (some .int) ∈ BW := iB_BW38 _ (List.mem_of_getElem? (i := 2) rfl)
theorem m_700 : Cond.methodLink RX10 109 yX10_numberHere ∈ BW := iB_BW38 _ (List.mem_of_getElem? (i := 0) rfl)
theorem m_701 : Cond.instanceMethod yX10_numberHere ∈ BW := iB_BW38 _ (List.mem_of_getElem? (i := 1) rfl)
theorem m_22 : Cond.selects RX10 yX10_numberHere yX10_numberHere ∈ BW := iB_BW1 _ (List.mem_of_getElem? (i := 2) rfl)
theorem si_X10_109 : SV RX10 RX10 109 yX10_numberHere cX10_numberHere 3 (some .int) 0 := ⟨⟨m_700, m_701, m_22, m_111, m_702⟩, rfl, nK_RX10.1, nK_RX10.2, pd_1⟩
theorem gX10_takesNumber_1 : (decode cX10_takesNumber 20 = .ok (.ireturn, 1)) ∧ (decode cX10_takesNumber 21 = .ok (.aload_n 0, 1)) ∧ (decode cX10_takesNumber 22 = .ok (.getfield 20, 3)) ∧ (decode cX10_takesNumber 25 = .ok (.iload_n 1, 1)) ∧ (decode cX10_takesNumber 26 = .ok (.iload_n 2, 1)) ∧ (decode cX10_takesNumber 27 = .ok (.iload 4, 2)) ∧ (decode cX10_takesNumber 29 = .ok (.invokevirtual 66, 3)) ∧ (decode cX10_takesNumber 32 = .ok (.aload_n 0, 1)) ∧ (decode cX10_takesNumber 33 = .ok (.invokevirtual 47, 3)) ∧ (decode cX10_takesNumber 36 = .ok (.iconst 1, 1)) := by decide +kernel
theorem m_231 : Cond.fieldLink RX10 20 "InquiryBench$Tape" "lines" "LInquiryBench$Table;" ∈ BW := iB_BW12 _ (List.mem_of_getElem? (i := 17) rfl)
theorem gf_X10_20 (hC : CX p s m meth c y0 b0 mL0 rt0 args) (hy0 : y0.cls = RX10) (hK : KK G s) (hP : va_P G.1 vwCl ws H) (q0 : Nat) {fs : List Value} {v : Value} (he : ws[q0]? = some (a, .inr (10, fs))) (hv : fs[2]? = some v) (hdg : decode b0 pc = .ok (.getfield 20, 3)) (kk : W p l e R s m args below meth c H locs cells slots Q (F0 m (pc + 3) ls (v :: rest))) : W p l e R s m args below meth c H locs cells slots Q (F0 m pc ls (.ref a :: rest)) := by
  obtain ⟨hx, hb, hr, hml, hB, hown, hlocks, hnm⟩ := hC
  rw [hy0] at hown
  exact va_get (ci := 10) (C := RX10) (T := TX10) (N := 8) hx hb hB in_X10 hown hK.1 hP q0 he rfl 2 (by decide) (hB _ m_231) (fun _ h => h) hv hdg kk
theorem m_643 : Cond.methodLink RX10 66 yX8_set ∈ BW := iB_BW35 _ (List.mem_of_getElem? (i := 3) rfl)
theorem si_X10_66 : SV RX10 RX8 66 yX8_set cX8_set 4 none 3 := ⟨⟨m_643, m_334, m_335, m_104, m_336⟩, rfl, nK_RX8.1, nK_RX8.2, pd_4⟩
theorem gX10_takesNumber_2 : (decode cX10_takesNumber 37 = .ok (.ireturn, 1)) := by decide +kernel
theorem gX10_addStep_0 : (decode cX10_addStep 0 = .ok (.aload_n 0, 1)) ∧ (decode cX10_addStep 1 = .ok (.getfield 24, 3)) ∧ (decode cX10_addStep 4 = .ok (.aload_n 0, 1)) ∧ (decode cX10_addStep 5 = .ok (.getfield 24, 3)) ∧ (decode cX10_addStep 8 = .ok (.invokevirtual 59, 3)) ∧ (decode cX10_addStep 11 = .ok (.iconst 0, 1)) ∧ (decode cX10_addStep 12 = .ok (.iload_n 1, 1)) ∧ (decode cX10_addStep 13 = .ok (.invokevirtual 66, 3)) ∧ (decode cX10_addStep 16 = .ok (.return_, 1)) := by decide +kernel
theorem m_232 : Cond.fieldLink RX10 24 "InquiryBench$Tape" "steps" "LInquiryBench$Table;" ∈ BW := iB_BW12 _ (List.mem_of_getElem? (i := 18) rfl)
theorem gf_X10_24 (hC : CX p s m meth c y0 b0 mL0 rt0 args) (hy0 : y0.cls = RX10) (hK : KK G s) (hP : va_P G.1 vwCl ws H) (q0 : Nat) {fs : List Value} {v : Value} (he : ws[q0]? = some (a, .inr (10, fs))) (hv : fs[3]? = some v) (hdg : decode b0 pc = .ok (.getfield 24, 3)) (kk : W p l e R s m args below meth c H locs cells slots Q (F0 m (pc + 3) ls (v :: rest))) : W p l e R s m args below meth c H locs cells slots Q (F0 m pc ls (.ref a :: rest)) := by
  obtain ⟨hx, hb, hr, hml, hB, hown, hlocks, hnm⟩ := hC
  rw [hy0] at hown
  exact va_get (ci := 10) (C := RX10) (T := TX10) (N := 8) hx hb hB in_X10 hown hK.1 hP q0 he rfl 3 (by decide) (hB _ m_232) (fun _ h => h) hv hdg kk
theorem m_639 : Cond.methodLink RX10 59 yX8_append ∈ BW := iB_BW34 _ (List.mem_of_getElem? (i := 19) rfl)
theorem si_X10_59 : SV RX10 RX8 59 yX8_append cX8_append 1 (some .int) 0 := ⟨⟨m_639, m_330, m_331, m_104, m_332⟩, rfl, nK_RX8.1, nK_RX8.2, pd_1⟩
theorem gX10_factHere_0 : (decode cX10_factHere 0 = .ok (.aload_n 0, 1)) ∧ (decode cX10_factHere 1 = .ok (.ldc 171, 2)) ∧ (decode cX10_factHere 3 = .ok (.invokevirtual 102, 3)) ∧ (decode cX10_factHere 6 = .ok (.ifCond .eq 5, 3)) ∧ (decode cX10_factHere 9 = .ok (.iconst 0, 1)) ∧ (decode cX10_factHere 10 = .ok (.ireturn, 1)) ∧ (decode cX10_factHere 11 = .ok (.aload_n 0, 1)) ∧ (decode cX10_factHere 12 = .ok (.ldc 173, 2)) ∧ (decode cX10_factHere 14 = .ok (.invokevirtual 102, 3)) ∧ (decode cX10_factHere 17 = .ok (.ifCond .eq 5, 3)) := by decide +kernel
theorem gX10_factHere_1 : (decode cX10_factHere 20 = .ok (.iconst 1, 1)) ∧ (decode cX10_factHere 21 = .ok (.ireturn, 1)) ∧ (decode cX10_factHere 22 = .ok (.aload_n 0, 1)) ∧ (decode cX10_factHere 23 = .ok (.ldc 175, 2)) ∧ (decode cX10_factHere 25 = .ok (.invokevirtual 102, 3)) ∧ (decode cX10_factHere 28 = .ok (.ifCond .eq 5, 3)) ∧ (decode cX10_factHere 31 = .ok (.iconst 2, 1)) ∧ (decode cX10_factHere 32 = .ok (.ireturn, 1)) ∧ (decode cX10_factHere 33 = .ok (.aload_n 0, 1)) ∧ (decode cX10_factHere 34 = .ok (.ldc 177, 2)) := by decide +kernel
theorem gX10_factHere_2 : (decode cX10_factHere 36 = .ok (.invokevirtual 102, 3)) ∧ (decode cX10_factHere 39 = .ok (.ifCond .eq 5, 3)) ∧ (decode cX10_factHere 42 = .ok (.iconst 3, 1)) ∧ (decode cX10_factHere 43 = .ok (.ireturn, 1)) ∧ (decode cX10_factHere 44 = .ok (.aload_n 0, 1)) ∧ (decode cX10_factHere 45 = .ok (.ldc 179, 2)) ∧ (decode cX10_factHere 47 = .ok (.invokevirtual 102, 3)) ∧ (decode cX10_factHere 50 = .ok (.ifCond .eq 7, 3)) ∧ (decode cX10_factHere 53 = .ok (.iconst 4, 1)) ∧ (decode cX10_factHere 54 = .ok (.goto 4, 3)) := by decide +kernel
theorem gX10_factHere_3 : (decode cX10_factHere 57 = .ok (.iconst (-1), 1)) ∧ (decode cX10_factHere 58 = .ok (.ireturn, 1)) := by decide +kernel
theorem gX10_signHere_0 : (decode cX10_signHere 0 = .ok (.aload_n 0, 1)) ∧ (decode cX10_signHere 1 = .ok (.getfield 31, 3)) ∧ (decode cX10_signHere 4 = .ok (.bipush 60, 2)) ∧ (decode cX10_signHere 6 = .ok (.if_icmp .ne 5, 3)) ∧ (decode cX10_signHere 9 = .ok (.iconst 0, 1)) ∧ (decode cX10_signHere 10 = .ok (.ireturn, 1)) ∧ (decode cX10_signHere 11 = .ok (.aload_n 0, 1)) ∧ (decode cX10_signHere 12 = .ok (.getfield 31, 3)) ∧ (decode cX10_signHere 15 = .ok (.bipush 61, 2)) ∧ (decode cX10_signHere 17 = .ok (.if_icmp .ne 5, 3)) := by decide +kernel
theorem gX10_signHere_1 : (decode cX10_signHere 20 = .ok (.iconst 1, 1)) ∧ (decode cX10_signHere 21 = .ok (.ireturn, 1)) ∧ (decode cX10_signHere 22 = .ok (.aload_n 0, 1)) ∧ (decode cX10_signHere 23 = .ok (.getfield 31, 3)) ∧ (decode cX10_signHere 26 = .ok (.bipush 62, 2)) ∧ (decode cX10_signHere 28 = .ok (.if_icmp .ne 7, 3)) ∧ (decode cX10_signHere 31 = .ok (.iconst 2, 1)) ∧ (decode cX10_signHere 32 = .ok (.goto 4, 3)) ∧ (decode cX10_signHere 35 = .ok (.iconst (-1), 1)) ∧ (decode cX10_signHere 36 = .ok (.ireturn, 1)) := by decide +kernel
theorem gX10_takesComparison_0 : (decode cX10_takesComparison 0 = .ok (.aload_n 0, 1)) ∧ (decode cX10_takesComparison 1 = .ok (.invokevirtual 165, 3)) ∧ (decode cX10_takesComparison 4 = .ok (.istore_n 1, 1)) ∧ (decode cX10_takesComparison 5 = .ok (.iload_n 1, 1)) ∧ (decode cX10_takesComparison 6 = .ok (.ifCond .ge 8, 3)) ∧ (decode cX10_takesComparison 9 = .ok (.aload_n 0, 1)) ∧ (decode cX10_takesComparison 10 = .ok (.invokevirtual 106, 3)) ∧ (decode cX10_takesComparison 13 = .ok (.ireturn, 1)) ∧ (decode cX10_takesComparison 14 = .ok (.aload_n 0, 1)) ∧ (decode cX10_takesComparison 15 = .ok (.invokevirtual 47, 3)) := by decide +kernel
theorem m_720 : Cond.code yX10_factHere cX10_factHere 1 (some .int) ∈ BW := iB_BW39 _ (List.mem_of_getElem? (i := 0) rfl)
theorem m_718 : Cond.methodLink RX10 165 yX10_factHere ∈ BW := iB_BW38 _ (List.mem_of_getElem? (i := 18) rfl)
theorem m_719 : Cond.instanceMethod yX10_factHere ∈ BW := iB_BW38 _ (List.mem_of_getElem? (i := 19) rfl)
theorem m_28 : Cond.selects RX10 yX10_factHere yX10_factHere ∈ BW := iB_BW1 _ (List.mem_of_getElem? (i := 8) rfl)
theorem si_X10_165 : SV RX10 RX10 165 yX10_factHere cX10_factHere 1 (some .int) 0 := ⟨⟨m_718, m_719, m_28, m_111, m_720⟩, rfl, nK_RX10.1, nK_RX10.2, pd_1⟩
theorem gX10_takesComparison_1 : (decode cX10_takesComparison 18 = .ok (.aload_n 0, 1)) ∧ (decode cX10_takesComparison 19 = .ok (.invokevirtual 168, 3)) ∧ (decode cX10_takesComparison 22 = .ok (.istore_n 2, 1)) ∧ (decode cX10_takesComparison 23 = .ok (.iload_n 2, 1)) ∧ (decode cX10_takesComparison 24 = .ok (.ifCond .ge 8, 3)) ∧ (decode cX10_takesComparison 27 = .ok (.aload_n 0, 1)) ∧ (decode cX10_takesComparison 28 = .ok (.invokevirtual 106, 3)) ∧ (decode cX10_takesComparison 31 = .ok (.ireturn, 1)) ∧ (decode cX10_takesComparison 32 = .ok (.aload_n 0, 1)) ∧ (decode cX10_takesComparison 33 = .ok (.invokevirtual 47, 3)) := by decide +kernel
theorem m_723 : Cond.code yX10_signHere cX10_signHere 1 (some .int) ∈ BW := iB_BW39 _ (List.mem_of_getElem? (i := 3) rfl)
theorem m_721 : Cond.methodLink RX10 168 yX10_signHere ∈ BW := iB_BW39 _ (List.mem_of_getElem? (i := 1) rfl)
theorem m_722 : Cond.instanceMethod yX10_signHere ∈ BW := iB_BW39 _ (List.mem_of_getElem? (i := 2) rfl)
theorem m_29 : Cond.selects RX10 yX10_signHere yX10_signHere ∈ BW := iB_BW1 _ (List.mem_of_getElem? (i := 9) rfl)
theorem si_X10_168 : SV RX10 RX10 168 yX10_signHere cX10_signHere 1 (some .int) 0 := ⟨⟨m_721, m_722, m_29, m_111, m_723⟩, rfl, nK_RX10.1, nK_RX10.2, pd_1⟩
theorem gX10_takesComparison_2 : (decode cX10_takesComparison 36 = .ok (.aload_n 0, 1)) ∧ (decode cX10_takesComparison 37 = .ok (.invokevirtual 109, 3)) ∧ (decode cX10_takesComparison 40 = .ok (.istore_n 3, 1)) ∧ (decode cX10_takesComparison 41 = .ok (.iload_n 3, 1)) ∧ (decode cX10_takesComparison 42 = .ok (.ifCond .ge 8, 3)) ∧ (decode cX10_takesComparison 45 = .ok (.aload_n 0, 1)) ∧ (decode cX10_takesComparison 46 = .ok (.invokevirtual 106, 3)) ∧ (decode cX10_takesComparison 49 = .ok (.ireturn, 1)) ∧ (decode cX10_takesComparison 50 = .ok (.aload_n 0, 1)) ∧ (decode cX10_takesComparison 51 = .ok (.invokevirtual 47, 3)) := by decide +kernel
theorem gX10_takesComparison_3 : (decode cX10_takesComparison 54 = .ok (.aload_n 0, 1)) ∧ (decode cX10_takesComparison 55 = .ok (.iload_n 1, 1)) ∧ (decode cX10_takesComparison 56 = .ok (.iconst 3, 1)) ∧ (decode cX10_takesComparison 57 = .ok (.imul, 1)) ∧ (decode cX10_takesComparison 58 = .ok (.iload_n 2, 1)) ∧ (decode cX10_takesComparison 59 = .ok (.iadd, 1)) ∧ (decode cX10_takesComparison 60 = .ok (.sipush 1000, 3)) ∧ (decode cX10_takesComparison 63 = .ok (.imul, 1)) ∧ (decode cX10_takesComparison 64 = .ok (.iload_n 3, 1)) ∧ (decode cX10_takesComparison 65 = .ok (.iadd, 1)) := by decide +kernel
theorem gX10_takesComparison_4 : (decode cX10_takesComparison 66 = .ok (.invokevirtual 152, 3)) ∧ (decode cX10_takesComparison 69 = .ok (.iconst 1, 1)) ∧ (decode cX10_takesComparison 70 = .ok (.ireturn, 1)) := by decide +kernel
theorem m_726 : Cond.code yX10_addStep cX10_addStep 2 none ∈ BW := iB_BW39 _ (List.mem_of_getElem? (i := 6) rfl)
theorem m_724 : Cond.methodLink RX10 152 yX10_addStep ∈ BW := iB_BW39 _ (List.mem_of_getElem? (i := 4) rfl)
theorem m_725 : Cond.instanceMethod yX10_addStep ∈ BW := iB_BW39 _ (List.mem_of_getElem? (i := 5) rfl)
theorem m_30 : Cond.selects RX10 yX10_addStep yX10_addStep ∈ BW := iB_BW1 _ (List.mem_of_getElem? (i := 10) rfl)
theorem si_X10_152 : SV RX10 RX10 152 yX10_addStep cX10_addStep 2 none 1 := ⟨⟨m_724, m_725, m_30, m_111, m_726⟩, rfl, nK_RX10.1, nK_RX10.2, pd_18⟩
end WR
theorem rmT {k x d mL mc ms : Nat} (h1 : d + 1 ≤ k) (h2 : 8 + (mL + 11) + 40 * d ≤ 40 * k) : d + 1 ≤ (RM (k + x) mc ms).frames ∧ 8 + (mL + 11) + 40 * d ≤ (RM (k + x) mc ms).locals := ⟨by show d + 1 ≤ k + x; omega, by show _ ≤ 40 * (k + x); omega⟩
section WR
variable {p : Program} {l : Launch} {e : Env} {R : Room} {s : State} {m : MethodId} {args : Array Value} {below : List Frame} {meth : Method} {c : Code} {H : Heap} {locs : List Loc} {cells slots : Nat} {Q : State → Prop}
variable {pc : Nat} {ls : Array Slot} {rest : List Value} {G : GG} {K : OO} {ws : va_W} {A : Nat → Prop} {y0 : MethodName} {b0 : ByteArray} {mL0 : Nat} {rt0 : Option FieldType} {a : Nat} {H0 : Heap}
theorem gX10_takesOne_0 : (decode cX10_takesOne 0 = .ok (.iconst 0, 1)) ∧ (decode cX10_takesOne 1 = .ok (.istore_n 2, 1)) ∧ (decode cX10_takesOne 2 = .ok (.iconst 0, 1)) ∧ (decode cX10_takesOne 3 = .ok (.istore_n 3, 1)) ∧ (decode cX10_takesOne 4 = .ok (.iload_n 3, 1)) ∧ (decode cX10_takesOne 5 = .ok (.sipush 240, 3)) ∧ (decode cX10_takesOne 8 = .ok (.if_icmp .ge 32, 3)) ∧ (decode cX10_takesOne 11 = .ok (.aload_n 0, 1)) ∧ (decode cX10_takesOne 12 = .ok (.ldc 160, 2)) ∧ (decode cX10_takesOne 14 = .ok (.invokevirtual 102, 3)) := by decide +kernel
theorem gX10_takesOne_1 : (decode cX10_takesOne 17 = .ok (.ifCond .eq 23, 3)) ∧ (decode cX10_takesOne 20 = .ok (.aload_n 0, 1)) ∧ (decode cX10_takesOne 21 = .ok (.invokevirtual 47, 3)) ∧ (decode cX10_takesOne 24 = .ok (.iload_n 2, 1)) ∧ (decode cX10_takesOne 25 = .ok (.ifCond .ne 7, 3)) ∧ (decode cX10_takesOne 28 = .ok (.iconst 1, 1)) ∧ (decode cX10_takesOne 29 = .ok (.goto 4, 3)) ∧ (decode cX10_takesOne 32 = .ok (.iconst 0, 1)) ∧ (decode cX10_takesOne 33 = .ok (.istore_n 2, 1)) ∧ (decode cX10_takesOne 34 = .ok (.iinc 3 1, 3)) := by decide +kernel
theorem gX10_takesOne_2 : (decode cX10_takesOne 37 = .ok (.goto (-33), 3)) ∧ (decode cX10_takesOne 40 = .ok (.aload_n 0, 1)) ∧ (decode cX10_takesOne 41 = .ok (.getfield 31, 3)) ∧ (decode cX10_takesOne 44 = .ok (.bipush 40, 2)) ∧ (decode cX10_takesOne 46 = .ok (.if_icmp .eq 12, 3)) ∧ (decode cX10_takesOne 49 = .ok (.aload_n 0, 1)) ∧ (decode cX10_takesOne 50 = .ok (.invokevirtual 162, 3)) ∧ (decode cX10_takesOne 53 = .ok (.ifCond .ne 40, 3)) ∧ (decode cX10_takesOne 56 = .ok (.iconst 0, 1)) ∧ (decode cX10_takesOne 57 = .ok (.ireturn, 1)) := by decide +kernel
theorem gX10_takesOne_3 : (decode cX10_takesOne 58 = .ok (.iload_n 1, 1)) ∧ (decode cX10_takesOne 59 = .ok (.iconst 4, 1)) ∧ (decode cX10_takesOne 60 = .ok (.if_icmp .lt 8, 3)) ∧ (decode cX10_takesOne 63 = .ok (.aload_n 0, 1)) ∧ (decode cX10_takesOne 64 = .ok (.invokevirtual 106, 3)) ∧ (decode cX10_takesOne 67 = .ok (.ireturn, 1)) ∧ (decode cX10_takesOne 68 = .ok (.aload_n 0, 1)) ∧ (decode cX10_takesOne 69 = .ok (.invokevirtual 47, 3)) ∧ (decode cX10_takesOne 72 = .ok (.aload_n 0, 1)) ∧ (decode cX10_takesOne 73 = .ok (.iload_n 1, 1)) := by decide +kernel
theorem gX10_takesOne_4 : (decode cX10_takesOne 74 = .ok (.iconst 1, 1)) ∧ (decode cX10_takesOne 75 = .ok (.iadd, 1)) ∧ (decode cX10_takesOne 76 = .ok (.invokevirtual 121, 3)) ∧ (decode cX10_takesOne 79 = .ok (.ifCond .eq 12, 3)) ∧ (decode cX10_takesOne 82 = .ok (.aload_n 0, 1)) ∧ (decode cX10_takesOne 83 = .ok (.bipush 41, 2)) ∧ (decode cX10_takesOne 85 = .ok (.invokevirtual 124, 3)) ∧ (decode cX10_takesOne 88 = .ok (.ifCond .ne 5, 3)) ∧ (decode cX10_takesOne 91 = .ok (.iconst 0, 1)) ∧ (decode cX10_takesOne 92 = .ok (.ireturn, 1)) := by decide +kernel
theorem m_708 : Cond.code yX10_takesCond cX10_takesCond 3 (some .boolean) ∈ BW := iB_BW38 _ (List.mem_of_getElem? (i := 8) rfl)
theorem m_706 : Cond.methodLink RX10 121 yX10_takesCond ∈ BW := iB_BW38 _ (List.mem_of_getElem? (i := 6) rfl)
theorem m_707 : Cond.instanceMethod yX10_takesCond ∈ BW := iB_BW38 _ (List.mem_of_getElem? (i := 7) rfl)
theorem m_24 : Cond.selects RX10 yX10_takesCond yX10_takesCond ∈ BW := iB_BW1 _ (List.mem_of_getElem? (i := 4) rfl)
theorem si_X10_121 : SV RX10 RX10 121 yX10_takesCond cX10_takesCond 3 (some .boolean) 1 := ⟨⟨m_706, m_707, m_24, m_111, m_708⟩, rfl, nK_RX10.1, nK_RX10.2, pd_5⟩
theorem m_729 : Cond.code yX10_takesByte cX10_takesByte 2 (some .boolean) ∈ BW := iB_BW39 _ (List.mem_of_getElem? (i := 9) rfl)
theorem m_727 : Cond.methodLink RX10 124 yX10_takesByte ∈ BW := iB_BW39 _ (List.mem_of_getElem? (i := 7) rfl)
theorem m_728 : Cond.instanceMethod yX10_takesByte ∈ BW := iB_BW39 _ (List.mem_of_getElem? (i := 8) rfl)
theorem m_31 : Cond.selects RX10 yX10_takesByte yX10_takesByte ∈ BW := iB_BW1 _ (List.mem_of_getElem? (i := 11) rfl)
theorem si_X10_124 : SV RX10 RX10 124 yX10_takesByte cX10_takesByte 2 (some .boolean) 1 := ⟨⟨m_727, m_728, m_31, m_111, m_729⟩, rfl, nK_RX10.1, nK_RX10.2, pd_5⟩
theorem gX10_takesOne_5 : (decode cX10_takesOne 93 = .ok (.iload_n 2, 1)) ∧ (decode cX10_takesOne 94 = .ok (.ifCond .eq 8, 3)) ∧ (decode cX10_takesOne 97 = .ok (.aload_n 0, 1)) ∧ (decode cX10_takesOne 98 = .ok (.iconst (-1), 1)) ∧ (decode cX10_takesOne 99 = .ok (.invokevirtual 152, 3)) ∧ (decode cX10_takesOne 102 = .ok (.iconst 1, 1)) ∧ (decode cX10_takesOne 103 = .ok (.ireturn, 1)) := by decide +kernel
theorem m_717 : Cond.code yX10_takesComparison cX10_takesComparison 4 (some .boolean) ∈ BW := iB_BW38 _ (List.mem_of_getElem? (i := 17) rfl)
theorem m_715 : Cond.methodLink RX10 162 yX10_takesComparison ∈ BW := iB_BW38 _ (List.mem_of_getElem? (i := 15) rfl)
theorem m_716 : Cond.instanceMethod yX10_takesComparison ∈ BW := iB_BW38 _ (List.mem_of_getElem? (i := 16) rfl)
theorem m_27 : Cond.selects RX10 yX10_takesComparison yX10_takesComparison ∈ BW := iB_BW1 _ (List.mem_of_getElem? (i := 7) rfl)
theorem si_X10_162 : SV RX10 RX10 162 yX10_takesComparison cX10_takesComparison 4 (some .boolean) 0 := ⟨⟨m_715, m_716, m_27, m_111, m_717⟩, rfl, nK_RX10.1, nK_RX10.2, pd_15⟩
theorem gX10_takesAll_0 : (decode cX10_takesAll 0 = .ok (.aload_n 0, 1)) ∧ (decode cX10_takesAll 1 = .ok (.iload_n 1, 1)) ∧ (decode cX10_takesAll 2 = .ok (.invokevirtual 155, 3)) ∧ (decode cX10_takesAll 5 = .ok (.ifCond .ne 5, 3)) ∧ (decode cX10_takesAll 8 = .ok (.iconst 0, 1)) ∧ (decode cX10_takesAll 9 = .ok (.ireturn, 1)) ∧ (decode cX10_takesAll 10 = .ok (.iconst 0, 1)) ∧ (decode cX10_takesAll 11 = .ok (.istore_n 2, 1)) ∧ (decode cX10_takesAll 12 = .ok (.iload_n 2, 1)) ∧ (decode cX10_takesAll 13 = .ok (.sipush 240, 3)) := by decide +kernel
theorem m_714 : Cond.code yX10_takesOne cX10_takesOne 4 (some .boolean) ∈ BW := iB_BW38 _ (List.mem_of_getElem? (i := 14) rfl)
theorem m_712 : Cond.methodLink RX10 155 yX10_takesOne ∈ BW := iB_BW38 _ (List.mem_of_getElem? (i := 12) rfl)
theorem m_713 : Cond.instanceMethod yX10_takesOne ∈ BW := iB_BW38 _ (List.mem_of_getElem? (i := 13) rfl)
theorem m_26 : Cond.selects RX10 yX10_takesOne yX10_takesOne ∈ BW := iB_BW1 _ (List.mem_of_getElem? (i := 6) rfl)
theorem si_X10_155 : SV RX10 RX10 155 yX10_takesOne cX10_takesOne 4 (some .boolean) 1 := ⟨⟨m_712, m_713, m_26, m_111, m_714⟩, rfl, nK_RX10.1, nK_RX10.2, pd_5⟩
theorem gX10_takesAll_1 : (decode cX10_takesAll 16 = .ok (.if_icmp .ge 38, 3)) ∧ (decode cX10_takesAll 19 = .ok (.aload_n 0, 1)) ∧ (decode cX10_takesAll 20 = .ok (.ldc 158, 2)) ∧ (decode cX10_takesAll 22 = .ok (.invokevirtual 102, 3)) ∧ (decode cX10_takesAll 25 = .ok (.ifCond .eq 29, 3)) ∧ (decode cX10_takesAll 28 = .ok (.aload_n 0, 1)) ∧ (decode cX10_takesAll 29 = .ok (.invokevirtual 47, 3)) ∧ (decode cX10_takesAll 32 = .ok (.aload_n 0, 1)) ∧ (decode cX10_takesAll 33 = .ok (.iload_n 1, 1)) ∧ (decode cX10_takesAll 34 = .ok (.invokevirtual 155, 3)) := by decide +kernel
theorem gX10_takesAll_2 : (decode cX10_takesAll 37 = .ok (.ifCond .ne 5, 3)) ∧ (decode cX10_takesAll 40 = .ok (.iconst 0, 1)) ∧ (decode cX10_takesAll 41 = .ok (.ireturn, 1)) ∧ (decode cX10_takesAll 42 = .ok (.aload_n 0, 1)) ∧ (decode cX10_takesAll 43 = .ok (.bipush (-2), 2)) ∧ (decode cX10_takesAll 45 = .ok (.invokevirtual 152, 3)) ∧ (decode cX10_takesAll 48 = .ok (.iinc 2 1, 3)) ∧ (decode cX10_takesAll 51 = .ok (.goto (-39), 3)) ∧ (decode cX10_takesAll 54 = .ok (.iconst 1, 1)) ∧ (decode cX10_takesAll 55 = .ok (.ireturn, 1)) := by decide +kernel
theorem gX10_takesCond_0 : (decode cX10_takesCond 0 = .ok (.aload_n 0, 1)) ∧ (decode cX10_takesCond 1 = .ok (.iload_n 1, 1)) ∧ (decode cX10_takesCond 2 = .ok (.invokevirtual 147, 3)) ∧ (decode cX10_takesCond 5 = .ok (.ifCond .ne 5, 3)) ∧ (decode cX10_takesCond 8 = .ok (.iconst 0, 1)) ∧ (decode cX10_takesCond 9 = .ok (.ireturn, 1)) ∧ (decode cX10_takesCond 10 = .ok (.iconst 0, 1)) ∧ (decode cX10_takesCond 11 = .ok (.istore_n 2, 1)) ∧ (decode cX10_takesCond 12 = .ok (.iload_n 2, 1)) ∧ (decode cX10_takesCond 13 = .ok (.sipush 240, 3)) := by decide +kernel
theorem m_711 : Cond.code yX10_takesAll cX10_takesAll 3 (some .boolean) ∈ BW := iB_BW38 _ (List.mem_of_getElem? (i := 11) rfl)
theorem m_709 : Cond.methodLink RX10 147 yX10_takesAll ∈ BW := iB_BW38 _ (List.mem_of_getElem? (i := 9) rfl)
theorem m_710 : Cond.instanceMethod yX10_takesAll ∈ BW := iB_BW38 _ (List.mem_of_getElem? (i := 10) rfl)
theorem m_25 : Cond.selects RX10 yX10_takesAll yX10_takesAll ∈ BW := iB_BW1 _ (List.mem_of_getElem? (i := 5) rfl)
theorem si_X10_147 : SV RX10 RX10 147 yX10_takesAll cX10_takesAll 3 (some .boolean) 1 := ⟨⟨m_709, m_710, m_25, m_111, m_711⟩, rfl, nK_RX10.1, nK_RX10.2, pd_5⟩
theorem gX10_takesCond_1 : (decode cX10_takesCond 16 = .ok (.if_icmp .ge 38, 3)) ∧ (decode cX10_takesCond 19 = .ok (.aload_n 0, 1)) ∧ (decode cX10_takesCond 20 = .ok (.ldc 150, 2)) ∧ (decode cX10_takesCond 22 = .ok (.invokevirtual 102, 3)) ∧ (decode cX10_takesCond 25 = .ok (.ifCond .eq 29, 3)) ∧ (decode cX10_takesCond 28 = .ok (.aload_n 0, 1)) ∧ (decode cX10_takesCond 29 = .ok (.invokevirtual 47, 3)) ∧ (decode cX10_takesCond 32 = .ok (.aload_n 0, 1)) ∧ (decode cX10_takesCond 33 = .ok (.iload_n 1, 1)) ∧ (decode cX10_takesCond 34 = .ok (.invokevirtual 147, 3)) := by decide +kernel
theorem gX10_takesCond_2 : (decode cX10_takesCond 37 = .ok (.ifCond .ne 5, 3)) ∧ (decode cX10_takesCond 40 = .ok (.iconst 0, 1)) ∧ (decode cX10_takesCond 41 = .ok (.ireturn, 1)) ∧ (decode cX10_takesCond 42 = .ok (.aload_n 0, 1)) ∧ (decode cX10_takesCond 43 = .ok (.bipush (-3), 2)) ∧ (decode cX10_takesCond 45 = .ok (.invokevirtual 152, 3)) ∧ (decode cX10_takesCond 48 = .ok (.iinc 2 1, 3)) ∧ (decode cX10_takesCond 51 = .ok (.goto (-39), 3)) ∧ (decode cX10_takesCond 54 = .ok (.iconst 1, 1)) ∧ (decode cX10_takesCond 55 = .ok (.ireturn, 1)) := by decide +kernel
theorem gX10_sortHere_0 : (decode cX10_sortHere 0 = .ok (.aload_n 0, 1)) ∧ (decode cX10_sortHere 1 = .ok (.ldc 127, 2)) ∧ (decode cX10_sortHere 3 = .ok (.invokevirtual 102, 3)) ∧ (decode cX10_sortHere 6 = .ok (.ifCond .eq 5, 3)) ∧ (decode cX10_sortHere 9 = .ok (.iconst 0, 1)) ∧ (decode cX10_sortHere 10 = .ok (.ireturn, 1)) ∧ (decode cX10_sortHere 11 = .ok (.aload_n 0, 1)) ∧ (decode cX10_sortHere 12 = .ok (.ldc 129, 2)) ∧ (decode cX10_sortHere 14 = .ok (.invokevirtual 102, 3)) ∧ (decode cX10_sortHere 17 = .ok (.ifCond .eq 5, 3)) := by decide +kernel
theorem gX10_sortHere_1 : (decode cX10_sortHere 20 = .ok (.iconst 1, 1)) ∧ (decode cX10_sortHere 21 = .ok (.ireturn, 1)) ∧ (decode cX10_sortHere 22 = .ok (.aload_n 0, 1)) ∧ (decode cX10_sortHere 23 = .ok (.ldc 131, 2)) ∧ (decode cX10_sortHere 25 = .ok (.invokevirtual 102, 3)) ∧ (decode cX10_sortHere 28 = .ok (.ifCond .eq 5, 3)) ∧ (decode cX10_sortHere 31 = .ok (.iconst 2, 1)) ∧ (decode cX10_sortHere 32 = .ok (.ireturn, 1)) ∧ (decode cX10_sortHere 33 = .ok (.aload_n 0, 1)) ∧ (decode cX10_sortHere 34 = .ok (.ldc 133, 2)) := by decide +kernel
theorem gX10_sortHere_2 : (decode cX10_sortHere 36 = .ok (.invokevirtual 102, 3)) ∧ (decode cX10_sortHere 39 = .ok (.ifCond .eq 7, 3)) ∧ (decode cX10_sortHere 42 = .ok (.iconst 3, 1)) ∧ (decode cX10_sortHere 43 = .ok (.goto 4, 3)) ∧ (decode cX10_sortHere 46 = .ok (.iconst (-1), 1)) ∧ (decode cX10_sortHere 47 = .ok (.ireturn, 1)) := by decide +kernel
theorem gX10_takesHead_0 : (decode cX10_takesHead 0 = .ok (.iload_n 2, 1)) ∧ (decode cX10_takesHead 1 = .ok (.tableswitch 131 0 2 #[27, 84, 93], 27)) ∧ (decode cX10_takesHead 28 = .ok (.aload_n 0, 1)) ∧ (decode cX10_takesHead 29 = .ok (.iload_n 1, 1)) ∧ (decode cX10_takesHead 30 = .ok (.iconst 1, 1)) ∧ (decode cX10_takesHead 31 = .ok (.bipush 99, 2)) ∧ (decode cX10_takesHead 33 = .ok (.invokevirtual 135, 3)) ∧ (decode cX10_takesHead 36 = .ok (.ifCond .eq 47, 3)) ∧ (decode cX10_takesHead 39 = .ok (.aload_n 0, 1)) ∧ (decode cX10_takesHead 40 = .ok (.ldc 138, 2)) := by decide +kernel
theorem m_699 : Cond.code yX10_takesNumber cX10_takesNumber 5 (some .boolean) ∈ BW := iB_BW37 _ (List.mem_of_getElem? (i := 19) rfl)
theorem m_697 : Cond.methodLink RX10 135 yX10_takesNumber ∈ BW := iB_BW37 _ (List.mem_of_getElem? (i := 17) rfl)
theorem m_698 : Cond.instanceMethod yX10_takesNumber ∈ BW := iB_BW37 _ (List.mem_of_getElem? (i := 18) rfl)
theorem m_21 : Cond.selects RX10 yX10_takesNumber yX10_takesNumber ∈ BW := iB_BW1 _ (List.mem_of_getElem? (i := 1) rfl)
theorem si_X10_135 : SV RX10 RX10 135 yX10_takesNumber cX10_takesNumber 5 (some .boolean) 3 := ⟨⟨m_697, m_698, m_21, m_111, m_699⟩, rfl, nK_RX10.1, nK_RX10.2, pd_0⟩
theorem gX10_takesHead_1 : (decode cX10_takesHead 42 = .ok (.invokevirtual 140, 3)) ∧ (decode cX10_takesHead 45 = .ok (.ifCond .eq 38, 3)) ∧ (decode cX10_takesHead 48 = .ok (.aload_n 0, 1)) ∧ (decode cX10_takesHead 49 = .ok (.iload_n 1, 1)) ∧ (decode cX10_takesHead 50 = .ok (.iconst 2, 1)) ∧ (decode cX10_takesHead 51 = .ok (.bipush 7, 2)) ∧ (decode cX10_takesHead 53 = .ok (.invokevirtual 135, 3)) ∧ (decode cX10_takesHead 56 = .ok (.ifCond .eq 27, 3)) ∧ (decode cX10_takesHead 59 = .ok (.aload_n 0, 1)) ∧ (decode cX10_takesHead 60 = .ok (.ldc 143, 2)) := by decide +kernel
theorem m_705 : Cond.code yX10_takesName cX10_takesName 2 (some .boolean) ∈ BW := iB_BW38 _ (List.mem_of_getElem? (i := 5) rfl)
theorem m_703 : Cond.methodLink RX10 140 yX10_takesName ∈ BW := iB_BW38 _ (List.mem_of_getElem? (i := 3) rfl)
theorem m_704 : Cond.instanceMethod yX10_takesName ∈ BW := iB_BW38 _ (List.mem_of_getElem? (i := 4) rfl)
theorem m_23 : Cond.selects RX10 yX10_takesName yX10_takesName ∈ BW := iB_BW1 _ (List.mem_of_getElem? (i := 3) rfl)
theorem si_X10_140 : SV RX10 RX10 140 yX10_takesName cX10_takesName 2 (some .boolean) 1 := ⟨⟨m_703, m_704, m_23, m_111, m_705⟩, rfl, nK_RX10.1, nK_RX10.2, pd_26⟩
theorem gX10_takesHead_2 : (decode cX10_takesHead 62 = .ok (.invokevirtual 140, 3)) ∧ (decode cX10_takesHead 65 = .ok (.ifCond .eq 18, 3)) ∧ (decode cX10_takesHead 68 = .ok (.aload_n 0, 1)) ∧ (decode cX10_takesHead 69 = .ok (.iload_n 1, 1)) ∧ (decode cX10_takesHead 70 = .ok (.iconst 3, 1)) ∧ (decode cX10_takesHead 71 = .ok (.bipush 7, 2)) ∧ (decode cX10_takesHead 73 = .ok (.invokevirtual 135, 3)) ∧ (decode cX10_takesHead 76 = .ok (.ifCond .eq 7, 3)) ∧ (decode cX10_takesHead 79 = .ok (.iconst 1, 1)) ∧ (decode cX10_takesHead 80 = .ok (.goto 4, 3)) := by decide +kernel
theorem gX10_takesHead_3 : (decode cX10_takesHead 83 = .ok (.iconst 0, 1)) ∧ (decode cX10_takesHead 84 = .ok (.ireturn, 1)) ∧ (decode cX10_takesHead 85 = .ok (.aload_n 0, 1)) ∧ (decode cX10_takesHead 86 = .ok (.iload_n 1, 1)) ∧ (decode cX10_takesHead 87 = .ok (.iconst 1, 1)) ∧ (decode cX10_takesHead 88 = .ok (.bipush 99, 2)) ∧ (decode cX10_takesHead 90 = .ok (.invokevirtual 135, 3)) ∧ (decode cX10_takesHead 93 = .ok (.ireturn, 1)) ∧ (decode cX10_takesHead 94 = .ok (.aload_n 0, 1)) ∧ (decode cX10_takesHead 95 = .ok (.iload_n 1, 1)) := by decide +kernel
theorem gX10_takesHead_4 : (decode cX10_takesHead 96 = .ok (.iconst 1, 1)) ∧ (decode cX10_takesHead 97 = .ok (.bipush 7, 2)) ∧ (decode cX10_takesHead 99 = .ok (.invokevirtual 135, 3)) ∧ (decode cX10_takesHead 102 = .ok (.ifCond .eq 28, 3)) ∧ (decode cX10_takesHead 105 = .ok (.aload_n 0, 1)) ∧ (decode cX10_takesHead 106 = .ok (.ldc 145, 2)) ∧ (decode cX10_takesHead 108 = .ok (.invokevirtual 140, 3)) ∧ (decode cX10_takesHead 111 = .ok (.ifCond .eq 19, 3)) ∧ (decode cX10_takesHead 114 = .ok (.aload_n 0, 1)) ∧ (decode cX10_takesHead 115 = .ok (.iload_n 1, 1)) := by decide +kernel
theorem gX10_takesHead_5 : (decode cX10_takesHead 116 = .ok (.iconst 2, 1)) ∧ (decode cX10_takesHead 117 = .ok (.sipush 999, 3)) ∧ (decode cX10_takesHead 120 = .ok (.invokevirtual 135, 3)) ∧ (decode cX10_takesHead 123 = .ok (.ifCond .eq 7, 3)) ∧ (decode cX10_takesHead 126 = .ok (.iconst 1, 1)) ∧ (decode cX10_takesHead 127 = .ok (.goto 4, 3)) ∧ (decode cX10_takesHead 130 = .ok (.iconst 0, 1)) ∧ (decode cX10_takesHead 131 = .ok (.ireturn, 1)) ∧ (decode cX10_takesHead 132 = .ok (.aload_n 0, 1)) ∧ (decode cX10_takesHead 133 = .ok (.iload_n 1, 1)) := by decide +kernel
theorem gX10_takesHead_6 : (decode cX10_takesHead 134 = .ok (.iconst 1, 1)) ∧ (decode cX10_takesHead 135 = .ok (.bipush 9, 2)) ∧ (decode cX10_takesHead 137 = .ok (.invokevirtual 135, 3)) ∧ (decode cX10_takesHead 140 = .ok (.ireturn, 1)) := by decide +kernel
theorem gX10_takesLine_0 : (decode cX10_takesLine 0 = .ok (.aload_n 0, 1)) ∧ (decode cX10_takesLine 1 = .ok (.getfield 20, 3)) ∧ (decode cX10_takesLine 4 = .ok (.invokevirtual 59, 3)) ∧ (decode cX10_takesLine 7 = .ok (.istore_n 1, 1)) ∧ (decode cX10_takesLine 8 = .ok (.iload_n 1, 1)) ∧ (decode cX10_takesLine 9 = .ok (.ifCond .ge 8, 3)) ∧ (decode cX10_takesLine 12 = .ok (.aload_n 0, 1)) ∧ (decode cX10_takesLine 13 = .ok (.invokevirtual 106, 3)) ∧ (decode cX10_takesLine 16 = .ok (.ireturn, 1)) ∧ (decode cX10_takesLine 17 = .ok (.iconst 1, 1)) := by decide +kernel
theorem gX10_takesLine_1 : (decode cX10_takesLine 18 = .ok (.istore_n 2, 1)) ∧ (decode cX10_takesLine 19 = .ok (.iload_n 2, 1)) ∧ (decode cX10_takesLine 20 = .ok (.iconst 3, 1)) ∧ (decode cX10_takesLine 21 = .ok (.if_icmp .gt 20, 3)) ∧ (decode cX10_takesLine 24 = .ok (.aload_n 0, 1)) ∧ (decode cX10_takesLine 25 = .ok (.getfield 20, 3)) ∧ (decode cX10_takesLine 28 = .ok (.iload_n 1, 1)) ∧ (decode cX10_takesLine 29 = .ok (.iload_n 2, 1)) ∧ (decode cX10_takesLine 30 = .ok (.bipush (-9), 2)) ∧ (decode cX10_takesLine 32 = .ok (.invokevirtual 66, 3)) := by decide +kernel
theorem gX10_takesLine_2 : (decode cX10_takesLine 35 = .ok (.iinc 2 1, 3)) ∧ (decode cX10_takesLine 38 = .ok (.goto (-19), 3)) ∧ (decode cX10_takesLine 41 = .ok (.aload_n 0, 1)) ∧ (decode cX10_takesLine 42 = .ok (.getfield 20, 3)) ∧ (decode cX10_takesLine 45 = .ok (.iload_n 1, 1)) ∧ (decode cX10_takesLine 46 = .ok (.iconst 4, 1)) ∧ (decode cX10_takesLine 47 = .ok (.iconst 0, 1)) ∧ (decode cX10_takesLine 48 = .ok (.invokevirtual 66, 3)) ∧ (decode cX10_takesLine 51 = .ok (.aload_n 0, 1)) ∧ (decode cX10_takesLine 52 = .ok (.getfield 20, 3)) := by decide +kernel
theorem gX10_takesLine_3 : (decode cX10_takesLine 55 = .ok (.iload_n 1, 1)) ∧ (decode cX10_takesLine 56 = .ok (.iconst 5, 1)) ∧ (decode cX10_takesLine 57 = .ok (.aload_n 0, 1)) ∧ (decode cX10_takesLine 58 = .ok (.getfield 24, 3)) ∧ (decode cX10_takesLine 61 = .ok (.invokevirtual 71, 3)) ∧ (decode cX10_takesLine 64 = .ok (.invokevirtual 66, 3)) ∧ (decode cX10_takesLine 67 = .ok (.aload_n 0, 1)) ∧ (decode cX10_takesLine 68 = .ok (.getfield 20, 3)) ∧ (decode cX10_takesLine 71 = .ok (.iload_n 1, 1)) ∧ (decode cX10_takesLine 72 = .ok (.bipush 6, 2)) := by decide +kernel
theorem m_644 : Cond.methodLink RX10 71 yX8_count ∈ BW := iB_BW35 _ (List.mem_of_getElem? (i := 4) rfl)
theorem si_X10_71 : SV RX10 RX8 71 yX8_count cX8_count 1 (some .int) 0 := ⟨⟨m_644, m_308, m_309, m_104, m_310⟩, rfl, nK_RX8.1, nK_RX8.2, pd_1⟩
theorem gX10_takesLine_4 : (decode cX10_takesLine 74 = .ok (.iconst 0, 1)) ∧ (decode cX10_takesLine 75 = .ok (.invokevirtual 66, 3)) ∧ (decode cX10_takesLine 78 = .ok (.aload_n 0, 1)) ∧ (decode cX10_takesLine 79 = .ok (.invokevirtual 112, 3)) ∧ (decode cX10_takesLine 82 = .ok (.istore_n 2, 1)) ∧ (decode cX10_takesLine 83 = .ok (.iload_n 2, 1)) ∧ (decode cX10_takesLine 84 = .ok (.ifCond .ge 8, 3)) ∧ (decode cX10_takesLine 87 = .ok (.aload_n 0, 1)) ∧ (decode cX10_takesLine 88 = .ok (.invokevirtual 106, 3)) ∧ (decode cX10_takesLine 91 = .ok (.ireturn, 1)) := by decide +kernel
theorem m_647 : Cond.code yX10_sortHere cX10_sortHere 1 (some .int) ∈ BW := iB_BW35 _ (List.mem_of_getElem? (i := 7) rfl)
theorem m_645 : Cond.methodLink RX10 112 yX10_sortHere ∈ BW := iB_BW35 _ (List.mem_of_getElem? (i := 5) rfl)
theorem m_646 : Cond.instanceMethod yX10_sortHere ∈ BW := iB_BW35 _ (List.mem_of_getElem? (i := 6) rfl)
theorem m_18 : Cond.selects RX10 yX10_sortHere yX10_sortHere ∈ BW := iB_BW0 _ (List.mem_of_getElem? (i := 18) rfl)
theorem si_X10_112 : SV RX10 RX10 112 yX10_sortHere cX10_sortHere 1 (some .int) 0 := ⟨⟨m_645, m_646, m_18, m_111, m_647⟩, rfl, nK_RX10.1, nK_RX10.2, pd_1⟩
theorem gX10_takesLine_5 : (decode cX10_takesLine 92 = .ok (.aload_n 0, 1)) ∧ (decode cX10_takesLine 93 = .ok (.getfield 20, 3)) ∧ (decode cX10_takesLine 96 = .ok (.iload_n 1, 1)) ∧ (decode cX10_takesLine 97 = .ok (.iconst 0, 1)) ∧ (decode cX10_takesLine 98 = .ok (.iload_n 2, 1)) ∧ (decode cX10_takesLine 99 = .ok (.invokevirtual 66, 3)) ∧ (decode cX10_takesLine 102 = .ok (.aload_n 0, 1)) ∧ (decode cX10_takesLine 103 = .ok (.invokevirtual 47, 3)) ∧ (decode cX10_takesLine 106 = .ok (.aload_n 0, 1)) ∧ (decode cX10_takesLine 107 = .ok (.iload_n 1, 1)) := by decide +kernel
theorem gX10_takesLine_6 : (decode cX10_takesLine 108 = .ok (.iload_n 2, 1)) ∧ (decode cX10_takesLine 109 = .ok (.invokevirtual 115, 3)) ∧ (decode cX10_takesLine 112 = .ok (.ifCond .ne 5, 3)) ∧ (decode cX10_takesLine 115 = .ok (.iconst 0, 1)) ∧ (decode cX10_takesLine 116 = .ok (.ireturn, 1)) ∧ (decode cX10_takesLine 117 = .ok (.iload_n 2, 1)) ∧ (decode cX10_takesLine 118 = .ok (.iconst 3, 1)) ∧ (decode cX10_takesLine 119 = .ok (.if_icmp .eq 63, 3)) ∧ (decode cX10_takesLine 122 = .ok (.aload_n 0, 1)) ∧ (decode cX10_takesLine 123 = .ok (.ldc 119, 2)) := by decide +kernel
theorem m_696 : Cond.code yX10_takesHead cX10_takesHead 3 (some .boolean) ∈ BW := iB_BW37 _ (List.mem_of_getElem? (i := 16) rfl)
theorem m_694 : Cond.methodLink RX10 115 yX10_takesHead ∈ BW := iB_BW37 _ (List.mem_of_getElem? (i := 14) rfl)
theorem m_695 : Cond.instanceMethod yX10_takesHead ∈ BW := iB_BW37 _ (List.mem_of_getElem? (i := 15) rfl)
theorem m_20 : Cond.selects RX10 yX10_takesHead yX10_takesHead ∈ BW := iB_BW1 _ (List.mem_of_getElem? (i := 0) rfl)
theorem si_X10_115 : SV RX10 RX10 115 yX10_takesHead cX10_takesHead 3 (some .boolean) 2 := ⟨⟨m_694, m_695, m_20, m_111, m_696⟩, rfl, nK_RX10.1, nK_RX10.2, pd_3⟩
theorem gX10_takesLine_7 : (decode cX10_takesLine 125 = .ok (.invokevirtual 102, 3)) ∧ (decode cX10_takesLine 128 = .ok (.ifCond .eq 54, 3)) ∧ (decode cX10_takesLine 131 = .ok (.aload_n 0, 1)) ∧ (decode cX10_takesLine 132 = .ok (.invokevirtual 47, 3)) ∧ (decode cX10_takesLine 135 = .ok (.aload_n 0, 1)) ∧ (decode cX10_takesLine 136 = .ok (.getfield 20, 3)) ∧ (decode cX10_takesLine 139 = .ok (.iload_n 1, 1)) ∧ (decode cX10_takesLine 140 = .ok (.iconst 4, 1)) ∧ (decode cX10_takesLine 141 = .ok (.iconst 1, 1)) ∧ (decode cX10_takesLine 142 = .ok (.invokevirtual 66, 3)) := by decide +kernel
theorem gX10_takesLine_8 : (decode cX10_takesLine 145 = .ok (.aload_n 0, 1)) ∧ (decode cX10_takesLine 146 = .ok (.iconst 0, 1)) ∧ (decode cX10_takesLine 147 = .ok (.invokevirtual 121, 3)) ∧ (decode cX10_takesLine 150 = .ok (.ifCond .ne 5, 3)) ∧ (decode cX10_takesLine 153 = .ok (.iconst 0, 1)) ∧ (decode cX10_takesLine 154 = .ok (.ireturn, 1)) ∧ (decode cX10_takesLine 155 = .ok (.aload_n 0, 1)) ∧ (decode cX10_takesLine 156 = .ok (.getfield 20, 3)) ∧ (decode cX10_takesLine 159 = .ok (.iload_n 1, 1)) ∧ (decode cX10_takesLine 160 = .ok (.bipush 6, 2)) := by decide +kernel
theorem gX10_takesLine_9 : (decode cX10_takesLine 162 = .ok (.aload_n 0, 1)) ∧ (decode cX10_takesLine 163 = .ok (.getfield 24, 3)) ∧ (decode cX10_takesLine 166 = .ok (.invokevirtual 71, 3)) ∧ (decode cX10_takesLine 169 = .ok (.aload_n 0, 1)) ∧ (decode cX10_takesLine 170 = .ok (.getfield 20, 3)) ∧ (decode cX10_takesLine 173 = .ok (.iload_n 1, 1)) ∧ (decode cX10_takesLine 174 = .ok (.iconst 5, 1)) ∧ (decode cX10_takesLine 175 = .ok (.invokevirtual 74, 3)) ∧ (decode cX10_takesLine 178 = .ok (.isub, 1)) ∧ (decode cX10_takesLine 179 = .ok (.invokevirtual 66, 3)) := by decide +kernel
theorem m_730 : Cond.methodLink RX10 74 yX8_at ∈ BW := iB_BW39 _ (List.mem_of_getElem? (i := 10) rfl)
theorem si_X10_74 : SV RX10 RX8 74 yX8_at cX8_at 3 (some .int) 2 := ⟨⟨m_730, m_312, m_313, m_104, m_314⟩, rfl, nK_RX8.1, nK_RX8.2, pd_2⟩
theorem gX10_takesLine_10 : (decode cX10_takesLine 182 = .ok (.aload_n 0, 1)) ∧ (decode cX10_takesLine 183 = .ok (.bipush 59, 2)) ∧ (decode cX10_takesLine 185 = .ok (.invokevirtual 124, 3)) ∧ (decode cX10_takesLine 188 = .ok (.ireturn, 1)) := by decide +kernel
end WR
/-- what the whole text comes to is what the rest of it comes to -/
def TXW (bt : Nat → Int32) (n s0 kl p ks : Nat) (fl fs : Nat → Int32) : Prop := ∃ ls c r, LNS kl fl ls ∧ STP ks fs c ∧ ∀ q, TXT bt n (9 - kl) p ls c r q → TXT bt n 9 s0 [] [] [] q
theorem TXW.zero {bt fl fs : Nat → Int32} {n s0 : Nat} : TXW bt n s0 0 s0 0 fl fs := ⟨[], [], [], LNS.zero, STP.zero, fun _ h => h⟩
section WR
variable {p : Program} {l : Launch} {e : Env} {R : Room} {s : State} {m : MethodId} {args : Array Value} {below : List Frame} {meth : Method} {c : Code} {H : Heap} {locs : List Loc} {cells slots : Nat} {Q : State → Prop}
variable {pc : Nat} {ls : Array Slot} {rest : List Value} {G : GG} {K : OO} {ws : va_W} {A : Nat → Prop} {y0 : MethodName} {b0 : ByteArray} {mL0 : Nat} {rt0 : Option FieldType} {a : Nat} {H0 : Heap}
theorem gX10_scan_0 : (decode cX10_scan 0 = .ok (.aload_n 0, 1)) ∧ (decode cX10_scan 1 = .ok (.getfield 20, 3)) ∧ (decode cX10_scan 4 = .ok (.iconst 0, 1)) ∧ (decode cX10_scan 5 = .ok (.invokevirtual 43, 3)) ∧ (decode cX10_scan 8 = .ok (.aload_n 0, 1)) ∧ (decode cX10_scan 9 = .ok (.getfield 24, 3)) ∧ (decode cX10_scan 12 = .ok (.iconst 0, 1)) ∧ (decode cX10_scan 13 = .ok (.invokevirtual 43, 3)) ∧ (decode cX10_scan 16 = .ok (.aload_n 0, 1)) ∧ (decode cX10_scan 17 = .ok (.iconst (-1), 1)) := by decide +kernel
theorem m_620 : Cond.methodLink RX10 43 yX8_cut ∈ BW := iB_BW34 _ (List.mem_of_getElem? (i := 0) rfl)
theorem si_X10_43 : SV RX10 RX8 43 yX8_cut cX8_cut 2 none 1 := ⟨⟨m_620, m_621, m_622, m_104, m_623⟩, rfl, nK_RX8.1, nK_RX8.2, pd_18⟩
theorem gX10_scan_1 : (decode cX10_scan 18 = .ok (.putfield 40, 3)) ∧ (decode cX10_scan 21 = .ok (.aload_n 0, 1)) ∧ (decode cX10_scan 22 = .ok (.iconst 0, 1)) ∧ (decode cX10_scan 23 = .ok (.putfield 37, 3)) ∧ (decode cX10_scan 26 = .ok (.aload_n 0, 1)) ∧ (decode cX10_scan 27 = .ok (.invokevirtual 47, 3)) ∧ (decode cX10_scan 30 = .ok (.iconst 0, 1)) ∧ (decode cX10_scan 31 = .ok (.istore_n 1, 1)) ∧ (decode cX10_scan 32 = .ok (.iload_n 1, 1)) ∧ (decode cX10_scan 33 = .ok (.bipush 9, 2)) := by decide +kernel
theorem gX10_scan_2 : (decode cX10_scan 35 = .ok (.if_icmp .gt 29, 3)) ∧ (decode cX10_scan 38 = .ok (.aload_n 0, 1)) ∧ (decode cX10_scan 39 = .ok (.getfield 31, 3)) ∧ (decode cX10_scan 42 = .ok (.iconst (-1), 1)) ∧ (decode cX10_scan 43 = .ok (.if_icmp .eq 21, 3)) ∧ (decode cX10_scan 46 = .ok (.aload_n 0, 1)) ∧ (decode cX10_scan 47 = .ok (.invokevirtual 50, 3)) ∧ (decode cX10_scan 50 = .ok (.ifCond .ne 8, 3)) ∧ (decode cX10_scan 53 = .ok (.aload_n 0, 1)) ∧ (decode cX10_scan 54 = .ok (.getfield 40, 3)) := by decide +kernel
theorem gX10_scan_3 : (decode cX10_scan 57 = .ok (.ireturn, 1)) ∧ (decode cX10_scan 58 = .ok (.iinc 1 1, 3)) ∧ (decode cX10_scan 61 = .ok (.goto (-29), 3)) ∧ (decode cX10_scan 64 = .ok (.aload_n 0, 1)) ∧ (decode cX10_scan 65 = .ok (.getfield 40, 3)) ∧ (decode cX10_scan 68 = .ok (.ireturn, 1)) := by decide +kernel
theorem gf_X10_40 (hC : CX p s m meth c y0 b0 mL0 rt0 args) (hy0 : y0.cls = RX10) (hK : KK G s) (hP : va_P G.1 vwCl ws H) (q0 : Nat) {fs : List Value} {v : Value} (he : ws[q0]? = some (a, .inr (10, fs))) (hv : fs[7]? = some v) (hdg : decode b0 pc = .ok (.getfield 40, 3)) (kk : W p l e R s m args below meth c H locs cells slots Q (F0 m (pc + 3) ls (v :: rest))) : W p l e R s m args below meth c H locs cells slots Q (F0 m pc ls (.ref a :: rest)) := by
  obtain ⟨hx, hb, hr, hml, hB, hown, hlocks, hnm⟩ := hC
  rw [hy0] at hown
  exact va_get (ci := 10) (C := RX10) (T := TX10) (N := 8) hx hb hB in_X10 hown hK.1 hP q0 he rfl 7 (by decide) (hB _ m_236) (fun _ h => h) hv hdg kk
theorem m_638 : Cond.code yX10_takesLine cX10_takesLine 3 (some .boolean) ∈ BW := iB_BW34 _ (List.mem_of_getElem? (i := 18) rfl)
theorem m_636 : Cond.methodLink RX10 50 yX10_takesLine ∈ BW := iB_BW34 _ (List.mem_of_getElem? (i := 16) rfl)
theorem m_637 : Cond.instanceMethod yX10_takesLine ∈ BW := iB_BW34 _ (List.mem_of_getElem? (i := 17) rfl)
theorem m_16 : Cond.selects RX10 yX10_takesLine yX10_takesLine ∈ BW := iB_BW0 _ (List.mem_of_getElem? (i := 16) rfl)
theorem si_X10_50 : SV RX10 RX10 50 yX10_takesLine cX10_takesLine 3 (some .boolean) 0 := ⟨⟨m_636, m_637, m_16, m_111, m_638⟩, rfl, nK_RX10.1, nK_RX10.2, pd_15⟩
end WR
theorem rm_6_4_2 {mc ms : Nat} : 4 + 1 ≤ (RM 6 mc ms).frames ∧ 8 + (2 + 11) + 40 * 4 ≤ (RM 6 mc ms).locals := ⟨by show 4 + 1 ≤ 6; decide, by show 8 + (2 + 11) + 40 * 4 ≤ 40 * 6; decide⟩
theorem rm_7_6_3 {mc ms : Nat} : 6 + 1 ≤ (RM 7 mc ms).frames ∧ 8 + (3 + 11) + 40 * 6 ≤ (RM 7 mc ms).locals := ⟨by show 6 + 1 ≤ 7; decide, by show 8 + (3 + 11) + 40 * 6 ≤ 40 * 7; decide⟩
theorem rm_7_3_1 {mc ms : Nat} : 3 + 1 ≤ (RM 7 mc ms).frames ∧ 8 + (1 + 11) + 40 * 3 ≤ (RM 7 mc ms).locals := ⟨by show 3 + 1 ≤ 7; decide, by show 8 + (1 + 11) + 40 * 3 ≤ 40 * 7; decide⟩
theorem dj_0__1 : ∀ i ∈ ([1] : List Nat), i ∉ ([0] : List Nat) := by decide
theorem rm_4_3_1 {mc ms : Nat} : 3 + 1 ≤ (RM 4 mc ms).frames ∧ 8 + (1 + 11) + 40 * 3 ≤ (RM 4 mc ms).locals := ⟨by show 3 + 1 ≤ 4; decide, by show 8 + (1 + 11) + 40 * 3 ≤ 40 * 4; decide⟩
theorem dj_0__1_2_3 : ∀ i ∈ ([1, 2, 3] : List Nat), i ∉ ([0] : List Nat) := by decide
theorem rm_2_1_4 {mc ms : Nat} : 1 + 1 ≤ (RM 2 mc ms).frames ∧ 8 + (4 + 11) + 40 * 1 ≤ (RM 2 mc ms).locals := ⟨by show 1 + 1 ≤ 2; decide, by show 8 + (4 + 11) + 40 * 1 ≤ 40 * 2; decide⟩
theorem rm_8_7_1 {mc ms : Nat} : 7 + 1 ≤ (RM 8 mc ms).frames ∧ 8 + (1 + 11) + 40 * 7 ≤ (RM 8 mc ms).locals := ⟨by show 7 + 1 ≤ 8; decide, by show 8 + (1 + 11) + 40 * 7 ≤ 40 * 8; decide⟩
theorem rm_8_3_1 {mc ms : Nat} : 3 + 1 ≤ (RM 8 mc ms).frames ∧ 8 + (1 + 11) + 40 * 3 ≤ (RM 8 mc ms).locals := ⟨by show 3 + 1 ≤ 8; decide, by show 8 + (1 + 11) + 40 * 3 ≤ 40 * 8; decide⟩
theorem rm_8_3_3 {mc ms : Nat} : 3 + 1 ≤ (RM 8 mc ms).frames ∧ 8 + (3 + 11) + 40 * 3 ≤ (RM 8 mc ms).locals := ⟨by show 3 + 1 ≤ 8; decide, by show 8 + (3 + 11) + 40 * 3 ≤ 40 * 8; decide⟩
theorem rm_8_2_2 {mc ms : Nat} : 2 + 1 ≤ (RM 8 mc ms).frames ∧ 8 + (2 + 11) + 40 * 2 ≤ (RM 8 mc ms).locals := ⟨by show 2 + 1 ≤ 8; decide, by show 8 + (2 + 11) + 40 * 2 ≤ 40 * 8; decide⟩
theorem sm_2_0_1 {a0 a1 a2 : Nat × va_E} {l : va_W} : ([2, 0, 1] : List Nat).map (fun i => (a0 :: a1 :: a2 :: l : va_W)[i]?) = ([a2, a0, a1] : va_W).map some := rfl
theorem fm_2_0_1 {a0 a1 a2 : Nat × va_E} {l : va_W} : ([2, 0, 1] : List Nat).filterMap (fun i => (a0 :: a1 :: a2 :: l : va_W)[i]?) = ([a2, a0, a1] : va_W) := rfl
theorem nd_2_0_1 : va_nd [2, 0, 1] = true := by decide
theorem dj_2_0_1__3 : ∀ i ∈ ([3] : List Nat), i ∉ ([2, 0, 1] : List Nat) := by decide
theorem fm_2_3_0_1 {a0 a1 a2 a3 : Nat × va_E} {l : va_W} : ([2, 3, 0, 1] : List Nat).filterMap (fun i => (a0 :: a1 :: a2 :: a3 :: l : va_W)[i]?) = ([a2, a3, a0, a1] : va_W) := rfl
theorem nd_2_3_0_1 : va_nd [2, 3, 0, 1] = true := by decide
theorem sm_2_3_0_1 {a0 a1 a2 a3 : Nat × va_E} {l : va_W} : ([2, 3, 0, 1] : List Nat).map (fun i => (a0 :: a1 :: a2 :: a3 :: l : va_W)[i]?) = ([a2, a3, a0, a1] : va_W).map some := rfl
theorem sm_0_2_3 {a0 a1 a2 a3 : Nat × va_E} {l : va_W} : ([0, 2, 3] : List Nat).map (fun i => (a0 :: a1 :: a2 :: a3 :: l : va_W)[i]?) = ([a0, a2, a3] : va_W).map some := rfl
theorem fm_0_2_3 {a0 a1 a2 a3 : Nat × va_E} {l : va_W} : ([0, 2, 3] : List Nat).filterMap (fun i => (a0 :: a1 :: a2 :: a3 :: l : va_W)[i]?) = ([a0, a2, a3] : va_W) := rfl
theorem nd_0_2_3 : va_nd [0, 2, 3] = true := by decide
theorem dj_0_2_3__1 : ∀ i ∈ ([1] : List Nat), i ∉ ([0, 2, 3] : List Nat) := by decide
theorem fm_1_0_2_3 {a0 a1 a2 a3 : Nat × va_E} {l : va_W} : ([1, 0, 2, 3] : List Nat).filterMap (fun i => (a0 :: a1 :: a2 :: a3 :: l : va_W)[i]?) = ([a1, a0, a2, a3] : va_W) := rfl
theorem nd_1_0_2_3 : va_nd [1, 0, 2, 3] = true := by decide
theorem sm_1_0_2_3 {a0 a1 a2 a3 : Nat × va_E} {l : va_W} : ([1, 0, 2, 3] : List Nat).map (fun i => (a0 :: a1 :: a2 :: a3 :: l : va_W)[i]?) = ([a1, a0, a2, a3] : va_W).map some := rfl
theorem rm_8_4_5 {mc ms : Nat} : 4 + 1 ≤ (RM 8 mc ms).frames ∧ 8 + (5 + 11) + 40 * 4 ≤ (RM 8 mc ms).locals := ⟨by show 4 + 1 ≤ 8; decide, by show 8 + (5 + 11) + 40 * 4 ≤ 40 * 8; decide⟩
theorem rm_8_7_2 {mc ms : Nat} : 7 + 1 ≤ (RM 8 mc ms).frames ∧ 8 + (2 + 11) + 40 * 7 ≤ (RM 8 mc ms).locals := ⟨by show 7 + 1 ≤ 8; decide, by show 8 + (2 + 11) + 40 * 7 ≤ 40 * 8; decide⟩
theorem rm_30_1_1 {mc ms : Nat} : 1 + 1 ≤ (RM 30 mc ms).frames ∧ 8 + (1 + 11) + 40 * 1 ≤ (RM 30 mc ms).locals := ⟨by show 1 + 1 ≤ 30; decide, by show 8 + (1 + 11) + 40 * 1 ≤ 40 * 30; decide⟩
theorem rm_30_1_4 {mc ms : Nat} : 1 + 1 ≤ (RM 30 mc ms).frames ∧ 8 + (4 + 11) + 40 * 1 ≤ (RM 30 mc ms).locals := ⟨by show 1 + 1 ≤ 30; decide, by show 8 + (4 + 11) + 40 * 1 ≤ 40 * 30; decide⟩
theorem rm_30_7_1 {mc ms : Nat} : 7 + 1 ≤ (RM 30 mc ms).frames ∧ 8 + (1 + 11) + 40 * 7 ≤ (RM 30 mc ms).locals := ⟨by show 7 + 1 ≤ 30; decide, by show 8 + (1 + 11) + 40 * 7 ≤ 40 * 30; decide⟩
theorem sm_1_2_3_4_5 {a0 a1 a2 a3 a4 a5 : Nat × va_E} {l : va_W} : ([1, 2, 3, 4, 5] : List Nat).map (fun i => (a0 :: a1 :: a2 :: a3 :: a4 :: a5 :: l : va_W)[i]?) = ([a1, a2, a3, a4, a5] : va_W).map some := rfl
theorem nd_1_2_3_4_5 : va_nd [1, 2, 3, 4, 5] = true := by decide
theorem dj_0__1_2_3_4_5 : ∀ i ∈ ([1, 2, 3, 4, 5] : List Nat), i ∉ ([0] : List Nat) := by decide
theorem rm_30_3_1 {mc ms : Nat} : 3 + 1 ≤ (RM 30 mc ms).frames ∧ 8 + (1 + 11) + 40 * 3 ≤ (RM 30 mc ms).locals := ⟨by show 3 + 1 ≤ 30; decide, by show 8 + (1 + 11) + 40 * 3 ≤ 40 * 30; decide⟩
theorem sm_2_3_4_5 {a0 a1 a2 a3 a4 a5 : Nat × va_E} {l : va_W} : ([2, 3, 4, 5] : List Nat).map (fun i => (a0 :: a1 :: a2 :: a3 :: a4 :: a5 :: l : va_W)[i]?) = ([a2, a3, a4, a5] : va_W).map some := rfl
theorem nd_2_3_4_5 : va_nd [2, 3, 4, 5] = true := by decide
theorem dj_0_1__2_3_4_5 : ∀ i ∈ ([2, 3, 4, 5] : List Nat), i ∉ ([0, 1] : List Nat) := by decide
theorem rm_30_8_3 {mc ms : Nat} : 8 + 1 ≤ (RM 30 mc ms).frames ∧ 8 + (3 + 11) + 40 * 8 ≤ (RM 30 mc ms).locals := ⟨by show 8 + 1 ≤ 30; decide, by show 8 + (3 + 11) + 40 * 8 ≤ 40 * 30; decide⟩
theorem rm_30_6_3 {mc ms : Nat} : 6 + 1 ≤ (RM 30 mc ms).frames ∧ 8 + (3 + 11) + 40 * 6 ≤ (RM 30 mc ms).locals := ⟨by show 6 + 1 ≤ 30; decide, by show 8 + (3 + 11) + 40 * 6 ≤ 40 * 30; decide⟩
theorem sm_0_1_4_5 {a0 a1 a2 a3 a4 a5 : Nat × va_E} {l : va_W} : ([0, 1, 4, 5] : List Nat).map (fun i => (a0 :: a1 :: a2 :: a3 :: a4 :: a5 :: l : va_W)[i]?) = ([a0, a1, a4, a5] : va_W).map some := rfl
theorem nd_0_1_4_5 : va_nd [0, 1, 4, 5] = true := by decide
theorem dj_2_3__0_1_4_5 : ∀ i ∈ ([0, 1, 4, 5] : List Nat), i ∉ ([2, 3] : List Nat) := by decide
theorem dj_2_3_0_1__4_5 : ∀ i ∈ ([4, 5] : List Nat), i ∉ ([2, 3, 0, 1] : List Nat) := by decide
theorem rm_30_1_3 {mc ms : Nat} : 1 + 1 ≤ (RM 30 mc ms).frames ∧ 8 + (3 + 11) + 40 * 1 ≤ (RM 30 mc ms).locals := ⟨by show 1 + 1 ≤ 30; decide, by show 8 + (3 + 11) + 40 * 1 ≤ 40 * 30; decide⟩
theorem rm_30_4_2 {mc ms : Nat} : 4 + 1 ≤ (RM 30 mc ms).frames ∧ 8 + (2 + 11) + 40 * 4 ≤ (RM 30 mc ms).locals := ⟨by show 4 + 1 ≤ 30; decide, by show 8 + (2 + 11) + 40 * 4 ≤ 40 * 30; decide⟩
theorem rm_31_1_2 {mc ms : Nat} : 1 + 1 ≤ (RM 31 mc ms).frames ∧ 8 + (2 + 11) + 40 * 1 ≤ (RM 31 mc ms).locals := ⟨by show 1 + 1 ≤ 31; decide, by show 8 + (2 + 11) + 40 * 1 ≤ 40 * 31; decide⟩
theorem sm_0_1_2_4_5 {a0 a1 a2 a3 a4 a5 : Nat × va_E} {l : va_W} : ([0, 1, 2, 4, 5] : List Nat).map (fun i => (a0 :: a1 :: a2 :: a3 :: a4 :: a5 :: l : va_W)[i]?) = ([a0, a1, a2, a4, a5] : va_W).map some := rfl
theorem nd_0_1_2_4_5 : va_nd [0, 1, 2, 4, 5] = true := by decide
theorem dj_3__0_1_2_4_5 : ∀ i ∈ ([0, 1, 2, 4, 5] : List Nat), i ∉ ([3] : List Nat) := by decide
theorem rm_31_3_1 {mc ms : Nat} : 3 + 1 ≤ (RM 31 mc ms).frames ∧ 8 + (1 + 11) + 40 * 3 ≤ (RM 31 mc ms).locals := ⟨by show 3 + 1 ≤ 31; decide, by show 8 + (1 + 11) + 40 * 3 ≤ 40 * 31; decide⟩
theorem rm_31_30_3 {mc ms : Nat} : 30 + 1 ≤ (RM 31 mc ms).frames ∧ 8 + (3 + 11) + 40 * 30 ≤ (RM 31 mc ms).locals := ⟨by show 30 + 1 ≤ 31; decide, by show 8 + (3 + 11) + 40 * 30 ≤ 40 * 31; decide⟩
theorem sm_4_5_2_0_3_1 {a0 a1 a2 a3 a4 a5 : Nat × va_E} {l : va_W} : ([4, 5, 2, 0, 3, 1] : List Nat).map (fun i => (a0 :: a1 :: a2 :: a3 :: a4 :: a5 :: l : va_W)[i]?) = ([a4, a5, a2, a0, a3, a1] : va_W).map some := rfl
theorem fm_4_5_2_0_3_1 {a0 a1 a2 a3 a4 a5 : Nat × va_E} {l : va_W} : ([4, 5, 2, 0, 3, 1] : List Nat).filterMap (fun i => (a0 :: a1 :: a2 :: a3 :: a4 :: a5 :: l : va_W)[i]?) = ([a4, a5, a2, a0, a3, a1] : va_W) := rfl
theorem nd_4_5_2_0_3_1 : va_nd [4, 5, 2, 0, 3, 1] = true := by decide
theorem fm_3_5_2_4_0_1 {a0 a1 a2 a3 a4 a5 : Nat × va_E} {l : va_W} : ([3, 5, 2, 4, 0, 1] : List Nat).filterMap (fun i => (a0 :: a1 :: a2 :: a3 :: a4 :: a5 :: l : va_W)[i]?) = ([a3, a5, a2, a4, a0, a1] : va_W) := rfl
theorem nd_3_5_2_4_0_1 : va_nd [3, 5, 2, 4, 0, 1] = true := by decide
theorem sm_3_5_2_4_0_1 {a0 a1 a2 a3 a4 a5 : Nat × va_E} {l : va_W} : ([3, 5, 2, 4, 0, 1] : List Nat).map (fun i => (a0 :: a1 :: a2 :: a3 :: a4 :: a5 :: l : va_W)[i]?) = ([a3, a5, a2, a4, a0, a1] : va_W).map some := rfl
def K_t_byteAtI (l : Launch) (G : GG) (h0 : Nat) (j9 : Nat) (tby : Nat) (kt : Nat) (tln : Nat) (tsp : Nat) (tkd : Int32) (ts9 : Int32) (tn9 : Int32) (tf9 : Int32) (fby : Nat → Int32) : Prop := MP l G yX10_byteAt cX10_byteAt 2 (some .int) 1 [.ref h0, .int (nI j9)] [(h0, oX10 tby (nI kt) tln tsp tkd ts9 tn9 tf9), (tby, iA G 240 fby)] (fun r : Int32 => r = fby j9)
set_option maxHeartbeats 4000000 in
set_option maxRecDepth 100000 in
theorem t_byteAtI (l : Launch) (G : GG) (h0 : Nat) (j9 : Nat) (tby : Nat) (kt : Nat) (tln : Nat) (tsp : Nat) (tkd : Int32) (ts9 : Int32) (tn9 : Int32) (tf9 : Int32) (fby : Nat → Int32) (hj9 : j9 < kt) (hkt : kt ≤ 240) : K_t_byteAtI l G h0 j9 tby kt tln tsp tkd ts9 tn9 tf9 fby := by
  refine MP.start (by decide +kernel) (Nat.le_of_ble_eq_true rfl) ?_
  intro p e s m below meth c ls hC hK hP hD hl
  refine absQ (fun Q0 hQ0 => ?_)
  have hl : lv_has ls 2 [(0, .ref h0), (1, .int (nI j9))] := hl
  refine Kan8 hC (fun hx hb hr hml hB hown hlocks hnm => ?_)
  refine lv_iload_n hx hb gX10_byteAt_0.1 rfl (lv_at1 hl) ?_
  refine lv_if_lt (tgt := 30) hx hb gX10_byteAt_0.2.1 (by decide) (fun c9 => absurd c9 (nI_pos (by omega))) (fun _ => ?_)
  refine lv_iload_n hx hb gX10_byteAt_0.2.2.1 rfl (lv_at1 hl) ?_
  refine lv_aload_n hx hb gX10_byteAt_0.2.2.2.1 rfl (lv_at0 hl) ?_
  refine gf_X10_27 hC rfl hK hP 0 rfl rfl gX10_byteAt_0.2.2.2.2.1 ?_
  refine lv_icmp_ge (tgt := 30) hx hb gX10_byteAt_0.2.2.2.2.2.1 (by decide) (fun c9 => absurd c9 (nI_ge (a := j9) (b := kt) (by omega) (by omega))) (fun _ => ?_)
  refine lv_iload_n hx hb gX10_byteAt_0.2.2.2.2.2.2.1 rfl (lv_at1 hl) ?_
  refine lv_aload_n hx hb gX10_byteAt_0.2.2.2.2.2.2.2.1 rfl (lv_at0 hl) ?_
  refine gf_X10_9 hC rfl hK hP 0 rfl rfl gX10_byteAt_0.2.2.2.2.2.2.2.2.1 ?_
  refine va_alen (v := 240) hx hb hK.1 hP 1 0 rfl rfl (show Int32.ofNat 240 = 240 by decide) gX10_byteAt_0.2.2.2.2.2.2.2.2.2 ?_
  refine lv_icmp_ge (tgt := 30) hx hb gX10_byteAt_1.1 (by decide) (fun c9 => absurd c9 (nI_ge (a := j9) (b := 240) (by omega) (by omega))) (fun _ => ?_)
  refine lv_aload_n hx hb gX10_byteAt_1.2.1 rfl (lv_at0 hl) ?_
  refine gf_X10_9 hC rfl hK hP 0 rfl rfl gX10_byteAt_1.2.2.1 ?_
  refine lv_iload_n hx hb gX10_byteAt_1.2.2.2.1 rfl (lv_at1 hl) ?_
  refine aldN hC hK hP 1 rfl (k := j9) (by omega) (Nat.le_of_ble_eq_true rfl) (v := fby j9) rfl gX10_byteAt_1.2.2.2.2.1 ?_
  refine lv_goto (tgt := 31) hx hb gX10_byteAt_1.2.2.2.2.2.1 (by decide) ?_
  refine toQ hQ0 ?_
  exact RP (v := fby j9) hC (rfl) rfl gX10_byteAt_1.2.2.2.2.2.2.2
def K_t_byteAtE (l : Launch) (G : GG) (h0 : Nat) (j9 : Nat) (tby : Nat) (kt : Nat) (tln : Nat) (tsp : Nat) (tkd : Int32) (ts9 : Int32) (tn9 : Int32) (tf9 : Int32) (fby : Nat → Int32) : Prop := MP l G yX10_byteAt cX10_byteAt 2 (some .int) 1 [.ref h0, .int (nI j9)] [(h0, oX10 tby (nI kt) tln tsp tkd ts9 tn9 tf9), (tby, iA G 240 fby)] (fun r : Int32 => r = (-1))
set_option maxHeartbeats 4000000 in
set_option maxRecDepth 100000 in
theorem t_byteAtE (l : Launch) (G : GG) (h0 : Nat) (j9 : Nat) (tby : Nat) (kt : Nat) (tln : Nat) (tsp : Nat) (tkd : Int32) (ts9 : Int32) (tn9 : Int32) (tf9 : Int32) (fby : Nat → Int32) (hj9 : kt ≤ j9) (hj8 : j9 < 2 ^ 31) (hkt : kt ≤ 240) : K_t_byteAtE l G h0 j9 tby kt tln tsp tkd ts9 tn9 tf9 fby := by
  refine MP.start (by decide +kernel) (Nat.le_of_ble_eq_true rfl) ?_
  intro p e s m below meth c ls hC hK hP hD hl
  refine absQ (fun Q0 hQ0 => ?_)
  have hl : lv_has ls 2 [(0, .ref h0), (1, .int (nI j9))] := hl
  refine Kan8 hC (fun hx hb hr hml hB hown hlocks hnm => ?_)
  refine lv_iload_n hx hb gX10_byteAt_0.1 rfl (lv_at1 hl) ?_
  refine lv_if_lt (tgt := 30) hx hb gX10_byteAt_0.2.1 (by decide) (fun c9 => absurd c9 (nI_pos (by omega))) (fun _ => ?_)
  refine lv_iload_n hx hb gX10_byteAt_0.2.2.1 rfl (lv_at1 hl) ?_
  refine lv_aload_n hx hb gX10_byteAt_0.2.2.2.1 rfl (lv_at0 hl) ?_
  refine gf_X10_27 hC rfl hK hP 0 rfl rfl gX10_byteAt_0.2.2.2.2.1 ?_
  refine lv_icmp_ge (tgt := 30) hx hb gX10_byteAt_0.2.2.2.2.2.1 (by decide) (fun _ => ?_) (fun c9 => absurd ((nI_leI (a := kt) (b := j9) (by omega) (by omega)).mpr (by omega)) c9)
  refine lv_iconst (v := (-1)) hx hb gX10_byteAt_1.2.2.2.2.2.2.1 (by decide) ?_
  refine toQ hQ0 ?_
  exact RP (v := (-1)) hC (rfl) rfl gX10_byteAt_1.2.2.2.2.2.2.2
def K_t_letter (l : Launch) (G : GG) (b9 : Int32) : Prop := MP l G yX10_isLetter cX10_isLetter 1 (some .boolean) 2 [.int b9] [] (fun r : Int32 => (r = 1 ∧ Wi b9 97 122) ∨ (r = 0 ∧ ¬ Wi b9 97 122))
set_option maxHeartbeats 4000000 in
set_option maxRecDepth 100000 in
theorem t_letter (l : Launch) (G : GG) (b9 : Int32) : K_t_letter l G b9 := by
  refine MP.start (by decide +kernel) (Nat.le_of_ble_eq_true rfl) ?_
  intro p e s m below meth c ls hC hK hP hD hl
  refine absQ (fun Q0 hQ0 => ?_)
  have hl : lv_has ls 1 [(0, .int b9)] := hl
  refine Kan8 hC (fun hx hb hr hml hB hown hlocks hnm => ?_)
  refine lv_iload_n hx hb gX10_isLetter_0.1 rfl (lv_at0 hl) ?_
  refine lv_bipush (v := 97) hx hb gX10_isLetter_0.2.1 (by decide) ?_
  refine lv_bipush (v := 122) hx hb gX10_isLetter_0.2.2.1 (by decide) ?_
  refine pSN hC hK hl (c_within l G b9 97 122) si_X10_89 rfl rfl (Nat.le_of_ble_eq_true rfl) rm_2_1_3 ⟨by first | exact Nat.le_of_ble_eq_true rfl | exact Nat.zero_le _, by first | exact Nat.le_of_ble_eq_true rfl | exact Nat.zero_le _⟩ gX10_isLetter_0.2.2.2.1 (Kors (Keqa fun a2759 => ?_) (Keqa fun a2759 => ?_))
  · refine toQ hQ0 ?_
    exact RP (v := 1) hC (Or.inl ⟨rfl, a2759⟩) (by decide +kernel) gX10_isLetter_0.2.2.2.2
  · refine toQ hQ0 ?_
    exact RP (v := 0) hC (Or.inr ⟨rfl, a2759⟩) (by decide +kernel) gX10_isLetter_0.2.2.2.2
def K_t_digit (l : Launch) (G : GG) (b9 : Int32) : Prop := MP l G yX10_isDigit cX10_isDigit 1 (some .boolean) 2 [.int b9] [] (fun r : Int32 => (r = 1 ∧ Wi b9 48 57) ∨ (r = 0 ∧ ¬ Wi b9 48 57))
set_option maxHeartbeats 4000000 in
set_option maxRecDepth 100000 in
theorem t_digit (l : Launch) (G : GG) (b9 : Int32) : K_t_digit l G b9 := by
  refine MP.start (by decide +kernel) (Nat.le_of_ble_eq_true rfl) ?_
  intro p e s m below meth c ls hC hK hP hD hl
  refine absQ (fun Q0 hQ0 => ?_)
  have hl : lv_has ls 1 [(0, .int b9)] := hl
  refine Kan8 hC (fun hx hb hr hml hB hown hlocks hnm => ?_)
  refine lv_iload_n hx hb gX10_isDigit_0.1 rfl (lv_at0 hl) ?_
  refine lv_bipush (v := 48) hx hb gX10_isDigit_0.2.1 (by decide) ?_
  refine lv_bipush (v := 57) hx hb gX10_isDigit_0.2.2.1 (by decide) ?_
  refine pSN hC hK hl (c_within l G b9 48 57) si_X10_89 rfl rfl (Nat.le_of_ble_eq_true rfl) rm_2_1_3 ⟨by first | exact Nat.le_of_ble_eq_true rfl | exact Nat.zero_le _, by first | exact Nat.le_of_ble_eq_true rfl | exact Nat.zero_le _⟩ gX10_isDigit_0.2.2.2.1 (Kors (Keqa fun a2761 => ?_) (Keqa fun a2761 => ?_))
  · refine toQ hQ0 ?_
    exact RP (v := 1) hC (Or.inl ⟨rfl, a2761⟩) (by decide +kernel) gX10_isDigit_0.2.2.2.2
  · refine toQ hQ0 ?_
    exact RP (v := 0) hC (Or.inr ⟨rfl, a2761⟩) (by decide +kernel) gX10_isDigit_0.2.2.2.2
def K_t_refuseX (l : Launch) (G : GG) (h0 : Nat) (tby : Nat) (kt : Nat) (tln : Nat) (tsp : Nat) (tkd : Int32) (ks : Nat) (kn : Nat) (tf9 : Int32) : Prop := MI l G yX10_refuse cX10_refuse 1 (some .boolean) 1 0 0 [.ref h0] [(h0, oX10 tby (nI kt) tln tsp tkd (nI ks) (nI kn) tf9)] (fun (r : Int32) (u : Unit) => (r = 0)) (fun u : Unit => [(h0, oX10 tby (nI kt) tln tsp tkd (nI ks) (nI kn) (nI ks))])
set_option maxHeartbeats 4000000 in
set_option maxRecDepth 100000 in
theorem t_refuseX (l : Launch) (G : GG) (h0 : Nat) (tby : Nat) (kt : Nat) (tln : Nat) (tsp : Nat) (tkd : Int32) (ks : Nat) (kn : Nat) (tf9 : Int32) : K_t_refuseX l G h0 tby kt tln tsp tkd ks kn tf9 := by
  refine MI.start (by decide +kernel) (Nat.le_of_ble_eq_true rfl) ?_
  intro p e s m below meth c A ls hC hK hP hD hS hA hl
  refine absQ (fun Q0 hQ0 => ?_)
  have hl : lv_has ls 1 [(0, .ref h0)] := hl
  refine Kan8 hC (fun hx hb hr hml hB hown hlocks hnm => ?_)
  refine lv_aload_n hx hb gX10_refuse_0.1 rfl (lv_at0 hl) ?_
  refine lv_aload_n hx hb gX10_refuse_0.2.1 rfl (lv_at0 hl) ?_
  refine gf_X10_34 hC rfl hK hP 0 rfl rfl gX10_refuse_0.2.2.1 ?_
  refine pf_X10_40 hC rfl hK hP hD hS 0 (ws' := [(h0, oX10 tby (nI kt) tln tsp tkd (nI ks) (nI kn) (nI ks))]) rfl (Nat.le_of_ble_eq_true rfl) rfl rfl rfl gX10_refuse_0.2.2.2.1 (fun H locs hP hD hS => ?_)
  refine lv_iconst (v := 0) hx hb gX10_refuse_0.2.2.2.2.1 (by decide) ?_
  refine toQ hQ0 ?_
  exact RI (v := 0) hC hP hD hS [0] () rfl rfl (by decide) (rfl) (by decide +kernel) gX10_refuse_0.2.2.2.2.2
def K_t_clear (l : Launch) (G : GG) (h0 : Nat) (tby : Nat) (kt : Nat) (tln : Nat) (tsp : Nat) (tkd : Int32) (ts9 : Int32) (tn9 : Int32) (tf9 : Int32) : Prop := MV l G yX10_clear cX10_clear 1 1 0 0 [.ref h0] [(h0, oX10 tby (nI kt) tln tsp tkd ts9 tn9 tf9)] (fun u : Unit => True) (fun u : Unit => [(h0, oX10 tby 0 tln tsp tkd ts9 tn9 tf9)])
set_option maxHeartbeats 4000000 in
set_option maxRecDepth 100000 in
theorem t_clear (l : Launch) (G : GG) (h0 : Nat) (tby : Nat) (kt : Nat) (tln : Nat) (tsp : Nat) (tkd : Int32) (ts9 : Int32) (tn9 : Int32) (tf9 : Int32) : K_t_clear l G h0 tby kt tln tsp tkd ts9 tn9 tf9 := by
  refine MV.start (by decide +kernel) (Nat.le_of_ble_eq_true rfl) ?_
  intro p e s m below meth c A ls hC hK hP hD hS hA hl
  refine absQ (fun Q0 hQ0 => ?_)
  have hl : lv_has ls 1 [(0, .ref h0)] := hl
  refine Kan8 hC (fun hx hb hr hml hB hown hlocks hnm => ?_)
  refine lv_aload_n hx hb gX10_clear_0.1 rfl (lv_at0 hl) ?_
  refine lv_iconst (v := 0) hx hb gX10_clear_0.2.1 (by decide) ?_
  refine pf_X10_27 hC rfl hK hP hD hS 0 (ws' := [(h0, oX10 tby 0 tln tsp tkd ts9 tn9 tf9)]) rfl (Nat.le_of_ble_eq_true rfl) rfl rfl rfl gX10_clear_0.2.2.1 (fun H locs hP hD hS => ?_)
  refine toQ hQ0 ?_
  exact RV hC hP hD hS [0] () rfl rfl (by decide) (trivial) gX10_clear_0.2.2.2
def K_t_adv (l : Launch) (G : GG) (h0 : Nat) (tby : Nat) (kt : Nat) (tln : Nat) (tsp : Nat) (tkd : Int32) (tso : Int32) (kn : Nat) (tf9 : Int32) (fby : Nat → Int32) : Prop := MV l G yX10_advance cX10_advance 1 3 0 0 [.ref h0] [(h0, oX10 tby (nI kt) tln tsp tkd tso (nI kn) tf9), (tby, iA G 240 fby)] (fun u : Unit => True) (fun u : Unit => [(h0, oX10 tby (nI kt) tln tsp (CKD fby kt (SK fby kt kn)) (nI (SK fby kt kn)) (nI (TKE fby kt (SK fby kt kn))) tf9), (tby, iA G 240 fby)])
set_option maxHeartbeats 4000000 in
set_option maxRecDepth 100000 in
theorem t_adv (l : Launch) (G : GG) (h0 : Nat) (tby : Nat) (kt : Nat) (tln : Nat) (tsp : Nat) (tkd : Int32) (tso : Int32) (kn : Nat) (tf9 : Int32) (fby : Nat → Int32) (hkt : kt ≤ 240) (hkn : kn ≤ kt) (hBB : BNN fby kt) : K_t_adv l G h0 tby kt tln tsp tkd tso kn tf9 fby := by
  refine MV.start (by decide +kernel) (Nat.le_of_ble_eq_true rfl) ?_
  intro p e s m below meth c A ls hC hK hP hD hS hA hl
  refine absQ (fun Q0 hQ0 => ?_)
  have hl : lv_has ls 1 [(0, .ref h0)] := hl
  refine Kan8 hC (fun hx hb hr hml hB hown hlocks hnm => ?_)
  refine lv_aload_n hx hb gX10_advance_0.1 rfl (lv_at0 hl) ?_
  refine lv_aload_n hx hb gX10_advance_0.2.1 rfl (lv_at0 hl) ?_
  refine gf_X10_37 hC rfl hK hP 0 rfl rfl gX10_advance_0.2.2.1 ?_
  refine pf_X10_34 hC rfl hK hP hD hS 0 (ws' := [(h0, oX10 tby (nI kt) tln tsp tkd (nI kn) (nI kn) tf9), (tby, iA G 240 fby)]) rfl (Nat.le_of_ble_eq_true rfl) rfl rfl rfl gX10_advance_0.2.2.2.1 (fun H locs hP hD hS => ?_)
  have keyA : ∀ (nA : Nat) (vA : Nat) (H : Heap) (locs : List Loc) (ls : Array Slot), (kn ≤ vA ∧ vA ≤ kt ∧ kt < vA + nA) → (RUN fby BLN kn vA) → va_PD G A [(h0, oX10 tby (nI kt) tln tsp tkd (nI vA) (nI kn) tf9), (tby, iA G 240 fby)] H → va_S A s.heap H locs → lv_has ls 1 [(0, .ref h0)] → W p l e (RM 3 0 0) s m ([.ref h0] : List Value).toArray below meth c H locs 0 0 Q0 (F0 m 8 ls []) := by
    intro nA
    induction nA with
    | zero =>
      intro vA H locs ls hiA hbA hPD hS hl
      refine Kan2 hPD (fun hP hD => ?_)
      exact (show False by omega).elim
    | succ nA ihA =>
      intro vA H locs ls hiA hbA hPD hS hl
      refine Kan2 hPD (fun hP hD => ?_)
      refine lv_aload_n hx hb gX10_advance_0.2.2.2.2.1 rfl (lv_at0 hl) ?_
      refine gf_X10_34 hC rfl hK hP 0 rfl rfl gX10_advance_0.2.2.2.2.2.1 ?_
      refine lv_aload_n hx hb gX10_advance_0.2.2.2.2.2.2.1 rfl (lv_at0 hl) ?_
      refine gf_X10_27 hC rfl hK hP 0 rfl rfl gX10_advance_0.2.2.2.2.2.2.2.1 ?_
      refine lv_icmp_ge (tgt := 45) hx hb gX10_advance_0.2.2.2.2.2.2.2.2.1 (by decide) (fun c_16_2762 => ?_) (fun c_16_2762 => ?_)
      · have nb2763 : kt ≤ vA := (nI_leI (a := kt) (b := vA) (by omega) (by omega)).mp c_16_2762
        have hsk : SK fby kt kn = vA := SK.of (by omega) (by omega) hbA (fun h9 => absurd h9 (by omega))
        refine lv_aload_n hx hb gX10_advance_2.2.2.1 rfl (lv_at0 hl) ?_
        refine lv_aload_n hx hb gX10_advance_2.2.2.2.1 rfl (lv_at0 hl) ?_
        refine gf_X10_34 hC rfl hK hP 0 rfl rfl gX10_advance_2.2.2.2.2.1 ?_
        refine pf_X10_37 hC rfl hK hP hD hS 0 (ws' := [(h0, oX10 tby (nI kt) tln tsp tkd (nI vA) (nI vA) tf9), (tby, iA G 240 fby)]) rfl (Nat.le_of_ble_eq_true rfl) rfl rfl rfl gX10_advance_2.2.2.2.2.2.1 (fun H locs hP hD hS => ?_)
        refine lv_aload_n hx hb gX10_advance_2.2.2.2.2.2.2.1 rfl (lv_at0 hl) ?_
        refine lv_aload_n hx hb gX10_advance_2.2.2.2.2.2.2.2.1 rfl (lv_at0 hl) ?_
        refine gf_X10_34 hC rfl hK hP 0 rfl rfl gX10_advance_2.2.2.2.2.2.2.2.2.1 ?_
        refine pV hC hK hl hP hD (t_byteAtE l G h0 vA tby kt tln tsp tkd (nI vA) (nI vA) tf9 fby (by omega) (by omega) (hkt)) si_X10_78 [0, 1] sm_0_1 fm_0_1 nd_0_1 rfl rfl rfl rfl rfl (Nat.le_of_ble_eq_true rfl) rm_3_1_2 ⟨by first | exact Nat.le_of_ble_eq_true rfl | exact Nat.zero_le _, by first | exact Nat.le_of_ble_eq_true rfl | exact Nat.zero_le _⟩ gX10_advance_2.2.2.2.2.2.2.2.2.2 (Keqr ?_)
        refine pS hC hK hl (t_letter l G (-1)) si_X10_82 rfl rfl (Nat.le_of_ble_eq_true rfl) rm_3_2_1 ⟨by first | exact Nat.le_of_ble_eq_true rfl | exact Nat.zero_le _, by first | exact Nat.le_of_ble_eq_true rfl | exact Nat.zero_le _⟩ gX10_advance_3.1 (Kors (Keqa fun a2768 => ?_) (Keqa fun a2768 => ?_))
        · exact absurd a2768 (by unfold Wi; decide)
        · have hq2769 := a2768
          refine lv_if_eq (tgt := 111) hx hb gX10_advance_3.2.1 (by decide) (fun _ => ?_) (fun c9 => absurd (by decide) c9)
          refine lv_aload_n hx hb gX10_advance_5.2.2.2.1 rfl (lv_at0 hl) ?_
          refine lv_aload_n hx hb gX10_advance_5.2.2.2.2.1 rfl (lv_at0 hl) ?_
          refine gf_X10_34 hC rfl hK hP 0 rfl rfl gX10_advance_5.2.2.2.2.2.1 ?_
          refine pV hC hK hl hP hD (t_byteAtE l G h0 vA tby kt tln tsp tkd (nI vA) (nI vA) tf9 fby (by omega) (by omega) (hkt)) si_X10_78 [0, 1] sm_0_1 fm_0_1 nd_0_1 rfl rfl rfl rfl rfl (Nat.le_of_ble_eq_true rfl) rm_3_1_2 ⟨by first | exact Nat.le_of_ble_eq_true rfl | exact Nat.zero_le _, by first | exact Nat.le_of_ble_eq_true rfl | exact Nat.zero_le _⟩ gX10_advance_5.2.2.2.2.2.2.1 (Keqr ?_)
          refine pS hC hK hl (t_digit l G (-1)) si_X10_86 rfl rfl (Nat.le_of_ble_eq_true rfl) rm_3_2_1 ⟨by first | exact Nat.le_of_ble_eq_true rfl | exact Nat.zero_le _, by first | exact Nat.le_of_ble_eq_true rfl | exact Nat.zero_le _⟩ gX10_advance_5.2.2.2.2.2.2.2.1 (Kors (Keqa fun a2773 => ?_) (Keqa fun a2773 => ?_))
          · exact absurd a2773 (by unfold Wi; decide)
          · have hq2774 := a2773
            refine lv_if_eq (tgt := 169) hx hb gX10_advance_5.2.2.2.2.2.2.2.2.1 (by decide) (fun _ => ?_) (fun c9 => absurd (by decide) c9)
            refine lv_aload_n hx hb gX10_advance_8.1 rfl (lv_at0 hl) ?_
            refine lv_aload_n hx hb gX10_advance_8.2.1 rfl (lv_at0 hl) ?_
            refine lv_aload_n hx hb gX10_advance_8.2.2.1 rfl (lv_at0 hl) ?_
            refine gf_X10_34 hC rfl hK hP 0 rfl rfl gX10_advance_8.2.2.2.1 ?_
            refine pV hC hK hl hP hD (t_byteAtE l G h0 vA tby kt tln tsp tkd (nI vA) (nI vA) tf9 fby (by omega) (by omega) (hkt)) si_X10_78 [0, 1] sm_0_1 fm_0_1 nd_0_1 rfl rfl rfl rfl rfl (Nat.le_of_ble_eq_true rfl) rm_3_1_2 ⟨by first | exact Nat.le_of_ble_eq_true rfl | exact Nat.zero_le _, by first | exact Nat.le_of_ble_eq_true rfl | exact Nat.zero_le _⟩ gX10_advance_8.2.2.2.2.1 (Keqr ?_)
            refine pf_X10_31 hC rfl hK hP hD hS 0 (ws' := [(h0, oX10 tby (nI kt) tln tsp (-1) (nI vA) (nI vA) tf9), (tby, iA G 240 fby)]) rfl (Nat.le_of_ble_eq_true rfl) rfl rfl rfl gX10_advance_8.2.2.2.2.2.1 (fun H locs hP hD hS => ?_)
            refine lv_aload_n hx hb gX10_advance_8.2.2.2.2.2.2.1 rfl (lv_at0 hl) ?_
            refine gf_X10_31 hC rfl hK hP 0 rfl rfl gX10_advance_8.2.2.2.2.2.2.2.1 ?_
            refine lv_iconst (v := (-1)) hx hb gX10_advance_8.2.2.2.2.2.2.2.2.1 (by decide) ?_
            refine lv_icmp_eq (tgt := 199) hx hb gX10_advance_8.2.2.2.2.2.2.2.2.2 (by decide) (fun _ => ?_) (fun c9 => absurd (by decide) c9)
            obtain ⟨e2, e3⟩ := (TKE.en (by omega) : CKD fby kt vA = (-1) ∧ TKE fby kt vA = vA)
            have hP : va_P G.1 vwCl [(h0, oX10 tby (nI kt) tln tsp (CKD fby kt (SK fby kt kn)) (nI (SK fby kt kn)) (nI (TKE fby kt (SK fby kt kn))) tf9), (tby, iA G 240 fby)] H := by rw [hsk, e2, e3]; exact hP
            have hD : va_D A [(h0, oX10 tby (nI kt) tln tsp (CKD fby kt (SK fby kt kn)) (nI (SK fby kt kn)) (nI (TKE fby kt (SK fby kt kn))) tf9), (tby, iA G 240 fby)] := by rw [hsk, e2, e3]; exact hD
            refine toQ hQ0 ?_
            exact RV hC hP hD hS [0, 1] () rfl rfl (by decide) (trivial) gX10_advance_9.2.2.2.2.2.2
      · have nb2764 : ¬ kt ≤ vA := fun h9 => c_16_2762 ((nI_leI (a := kt) (b := vA) (by omega) (by omega)).mpr h9)
        refine lv_aload_n hx hb gX10_advance_0.2.2.2.2.2.2.2.2.2 rfl (lv_at0 hl) ?_
        refine lv_aload_n hx hb gX10_advance_1.1 rfl (lv_at0 hl) ?_
        refine gf_X10_34 hC rfl hK hP 0 rfl rfl gX10_advance_1.2.1 ?_
        refine pV hC hK hl hP hD (t_byteAtI l G h0 vA tby kt tln tsp tkd (nI vA) (nI kn) tf9 fby (by omega) (hkt)) si_X10_78 [0, 1] sm_0_1 fm_0_1 nd_0_1 rfl rfl rfl rfl rfl (Nat.le_of_ble_eq_true rfl) rm_3_1_2 ⟨by first | exact Nat.le_of_ble_eq_true rfl | exact Nat.zero_le _, by first | exact Nat.le_of_ble_eq_true rfl | exact Nat.zero_le _⟩ gX10_advance_1.2.2.1 (Keqr ?_)
        refine lv_bipush (v := 32) hx hb gX10_advance_1.2.2.2.1 (by decide) ?_
        refine lv_icmp_ne (tgt := 45) hx hb gX10_advance_1.2.2.2.2.1 (by decide) (fun c_29_2779 => ?_) (fun c_29_2779 => ?_)
        · have hsk : SK fby kt kn = vA := SK.of (by omega) (by omega) hbA (fun _ => c_29_2779)
          refine lv_aload_n hx hb gX10_advance_2.2.2.1 rfl (lv_at0 hl) ?_
          refine lv_aload_n hx hb gX10_advance_2.2.2.2.1 rfl (lv_at0 hl) ?_
          refine gf_X10_34 hC rfl hK hP 0 rfl rfl gX10_advance_2.2.2.2.2.1 ?_
          refine pf_X10_37 hC rfl hK hP hD hS 0 (ws' := [(h0, oX10 tby (nI kt) tln tsp tkd (nI vA) (nI vA) tf9), (tby, iA G 240 fby)]) rfl (Nat.le_of_ble_eq_true rfl) rfl rfl rfl gX10_advance_2.2.2.2.2.2.1 (fun H locs hP hD hS => ?_)
          refine lv_aload_n hx hb gX10_advance_2.2.2.2.2.2.2.1 rfl (lv_at0 hl) ?_
          refine lv_aload_n hx hb gX10_advance_2.2.2.2.2.2.2.2.1 rfl (lv_at0 hl) ?_
          refine gf_X10_34 hC rfl hK hP 0 rfl rfl gX10_advance_2.2.2.2.2.2.2.2.2.1 ?_
          refine pV hC hK hl hP hD (t_byteAtI l G h0 vA tby kt tln tsp tkd (nI vA) (nI vA) tf9 fby (by omega) (hkt)) si_X10_78 [0, 1] sm_0_1 fm_0_1 nd_0_1 rfl rfl rfl rfl rfl (Nat.le_of_ble_eq_true rfl) rm_3_1_2 ⟨by first | exact Nat.le_of_ble_eq_true rfl | exact Nat.zero_le _, by first | exact Nat.le_of_ble_eq_true rfl | exact Nat.zero_le _⟩ gX10_advance_2.2.2.2.2.2.2.2.2.2 (Keqr ?_)
          refine pS hC hK hl (t_letter l G (fby vA)) si_X10_82 rfl rfl (Nat.le_of_ble_eq_true rfl) rm_3_2_1 ⟨by first | exact Nat.le_of_ble_eq_true rfl | exact Nat.zero_le _, by first | exact Nat.le_of_ble_eq_true rfl | exact Nat.zero_le _⟩ gX10_advance_3.1 (Kors (Keqa fun a2783 => ?_) (Keqa fun a2783 => ?_))
          · have hq2784 := a2783
            refine lv_if_eq (tgt := 111) hx hb gX10_advance_3.2.1 (by decide) (fun c9 => absurd c9 (by decide)) (fun _ => ?_)
            refine lv_aload_n hx hb gX10_advance_3.2.2.1 rfl (lv_at0 hl) ?_
            refine lv_bipush (v := (-2)) hx hb gX10_advance_3.2.2.2.1 (by decide) ?_
            refine pf_X10_31 hC rfl hK hP hD hS 0 (ws' := [(h0, oX10 tby (nI kt) tln tsp (-2) (nI vA) (nI vA) tf9), (tby, iA G 240 fby)]) rfl (Nat.le_of_ble_eq_true rfl) rfl rfl rfl gX10_advance_3.2.2.2.2.1 (fun H locs hP hD hS => ?_)
            have keyB : ∀ (nB : Nat) (vB : Nat) (H : Heap) (locs : List Loc) (ls : Array Slot), (vA ≤ vB ∧ vB ≤ kt ∧ kt < vB + nB) → (RUN fby LTR vA vB) → va_PD G A [(h0, oX10 tby (nI kt) tln tsp (-2) (nI vA) (nI vB) tf9), (tby, iA G 240 fby)] H → va_S A s.heap H locs → lv_has ls 1 [(0, .ref h0)] → W p l e (RM 3 0 0) s m ([.ref h0] : List Value).toArray below meth c H locs 0 0 Q0 (F0 m 73 ls []) := by
              intro nB
              induction nB with
              | zero =>
                intro vB H locs ls hiB hbB hPD hS hl
                refine Kan2 hPD (fun hP hD => ?_)
                exact (show False by omega).elim
              | succ nB ihB =>
                intro vB H locs ls hiB hbB hPD hS hl
                refine Kan2 hPD (fun hP hD => ?_)
                refine lv_aload_n hx hb gX10_advance_3.2.2.2.2.2.1 rfl (lv_at0 hl) ?_
                refine gf_X10_37 hC rfl hK hP 0 rfl rfl gX10_advance_3.2.2.2.2.2.2.1 ?_
                refine lv_aload_n hx hb gX10_advance_3.2.2.2.2.2.2.2.1 rfl (lv_at0 hl) ?_
                refine gf_X10_27 hC rfl hK hP 0 rfl rfl gX10_advance_3.2.2.2.2.2.2.2.2.1 ?_
                refine lv_icmp_ge (tgt := 199) hx hb gX10_advance_3.2.2.2.2.2.2.2.2.2 (by decide) (fun c_81_2785 => ?_) (fun c_81_2785 => ?_)
                · have nb2786 : kt ≤ vB := (nI_leI (a := kt) (b := vB) (by omega) (by omega)).mp c_81_2785
                  obtain ⟨e2, e3⟩ := (TKE.nm (by omega) hq2784 (by omega) (by omega) hbB (fun h9 => absurd h9 (by omega)) : CKD fby kt vA = (-2) ∧ TKE fby kt vA = vB)
                  have hP : va_P G.1 vwCl [(h0, oX10 tby (nI kt) tln tsp (CKD fby kt (SK fby kt kn)) (nI (SK fby kt kn)) (nI (TKE fby kt (SK fby kt kn))) tf9), (tby, iA G 240 fby)] H := by rw [hsk, e2, e3]; exact hP
                  have hD : va_D A [(h0, oX10 tby (nI kt) tln tsp (CKD fby kt (SK fby kt kn)) (nI (SK fby kt kn)) (nI (TKE fby kt (SK fby kt kn))) tf9), (tby, iA G 240 fby)] := by rw [hsk, e2, e3]; exact hD
                  refine toQ hQ0 ?_
                  exact RV hC hP hD hS [0, 1] () rfl rfl (by decide) (trivial) gX10_advance_9.2.2.2.2.2.2
                · have nb2787 : ¬ kt ≤ vB := fun h9 => c_81_2785 ((nI_leI (a := kt) (b := vB) (by omega) (by omega)).mpr h9)
                  refine lv_aload_n hx hb gX10_advance_4.1 rfl (lv_at0 hl) ?_
                  refine lv_aload_n hx hb gX10_advance_4.2.1 rfl (lv_at0 hl) ?_
                  refine gf_X10_37 hC rfl hK hP 0 rfl rfl gX10_advance_4.2.2.1 ?_
                  refine pV hC hK hl hP hD (t_byteAtI l G h0 vB tby kt tln tsp (-2) (nI vA) (nI vB) tf9 fby (by omega) (hkt)) si_X10_78 [0, 1] sm_0_1 fm_0_1 nd_0_1 rfl rfl rfl rfl rfl (Nat.le_of_ble_eq_true rfl) rm_3_1_2 ⟨by first | exact Nat.le_of_ble_eq_true rfl | exact Nat.zero_le _, by first | exact Nat.le_of_ble_eq_true rfl | exact Nat.zero_le _⟩ gX10_advance_4.2.2.2.1 (Keqr ?_)
                  refine pS hC hK hl (t_letter l G (fby vB)) si_X10_82 rfl rfl (Nat.le_of_ble_eq_true rfl) rm_3_2_1 ⟨by first | exact Nat.le_of_ble_eq_true rfl | exact Nat.zero_le _, by first | exact Nat.le_of_ble_eq_true rfl | exact Nat.zero_le _⟩ gX10_advance_4.2.2.2.2.1 (Kors (Keqa fun a2791 => ?_) (Keqa fun a2791 => ?_))
                  · have hq2792 := a2791
                    refine lv_if_eq (tgt := 199) hx hb gX10_advance_4.2.2.2.2.2.1 (by decide) (fun c9 => absurd c9 (by decide)) (fun _ => ?_)
                    refine lv_aload_n hx hb gX10_advance_4.2.2.2.2.2.2.1 rfl (lv_at0 hl) ?_
                    refine lv_dup hx hb gX10_advance_4.2.2.2.2.2.2.2.1 rfl ?_
                    refine gf_X10_37 hC rfl hK hP 0 rfl rfl gX10_advance_4.2.2.2.2.2.2.2.2.1 ?_
                    refine lv_iconst (v := 1) hx hb gX10_advance_4.2.2.2.2.2.2.2.2.2 (by decide) ?_
                    refine lv_iadd hx hb gX10_advance_5.1 ?_
                    refine eqi (x1 := nI (vB + 1)) (nI_add vB 1) ?_
                    refine pf_X10_37 hC rfl hK hP hD hS 0 (ws' := [(h0, oX10 tby (nI kt) tln tsp (-2) (nI vA) (nI (vB + 1)) tf9), (tby, iA G 240 fby)]) rfl (Nat.le_of_ble_eq_true rfl) rfl rfl rfl gX10_advance_5.2.1 (fun H locs hP hD hS => ?_)
                    refine lv_goto (tgt := 73) hx hb gX10_advance_5.2.2.1 (by decide) ?_
                    exact ihB (vB + 1) _ _ _ (by omega) (hbB.next hq2792) (And.intro hP hD) hS (lv_sub hl [0] rfl)
                  · have hq2793 := a2791
                    refine lv_if_eq (tgt := 199) hx hb gX10_advance_4.2.2.2.2.2.1 (by decide) (fun _ => ?_) (fun c9 => absurd (by decide) c9)
                    obtain ⟨e2, e3⟩ := (TKE.nm (by omega) hq2784 (by omega) (by omega) hbB (fun _ => hq2793) : CKD fby kt vA = (-2) ∧ TKE fby kt vA = vB)
                    have hP : va_P G.1 vwCl [(h0, oX10 tby (nI kt) tln tsp (CKD fby kt (SK fby kt kn)) (nI (SK fby kt kn)) (nI (TKE fby kt (SK fby kt kn))) tf9), (tby, iA G 240 fby)] H := by rw [hsk, e2, e3]; exact hP
                    have hD : va_D A [(h0, oX10 tby (nI kt) tln tsp (CKD fby kt (SK fby kt kn)) (nI (SK fby kt kn)) (nI (TKE fby kt (SK fby kt kn))) tf9), (tby, iA G 240 fby)] := by rw [hsk, e2, e3]; exact hD
                    refine toQ hQ0 ?_
                    exact RV hC hP hD hS [0, 1] () rfl rfl (by decide) (trivial) gX10_advance_9.2.2.2.2.2.2
            exact keyB (kt + 1) vA _ _ _ (by omega) (RUN.zero) (And.intro hP hD) hS (lv_sub hl [0] rfl)
          · have hq2794 := a2783
            refine lv_if_eq (tgt := 111) hx hb gX10_advance_3.2.1 (by decide) (fun _ => ?_) (fun c9 => absurd (by decide) c9)
            refine lv_aload_n hx hb gX10_advance_5.2.2.2.1 rfl (lv_at0 hl) ?_
            refine lv_aload_n hx hb gX10_advance_5.2.2.2.2.1 rfl (lv_at0 hl) ?_
            refine gf_X10_34 hC rfl hK hP 0 rfl rfl gX10_advance_5.2.2.2.2.2.1 ?_
            refine pV hC hK hl hP hD (t_byteAtI l G h0 vA tby kt tln tsp tkd (nI vA) (nI vA) tf9 fby (by omega) (hkt)) si_X10_78 [0, 1] sm_0_1 fm_0_1 nd_0_1 rfl rfl rfl rfl rfl (Nat.le_of_ble_eq_true rfl) rm_3_1_2 ⟨by first | exact Nat.le_of_ble_eq_true rfl | exact Nat.zero_le _, by first | exact Nat.le_of_ble_eq_true rfl | exact Nat.zero_le _⟩ gX10_advance_5.2.2.2.2.2.2.1 (Keqr ?_)
            refine pS hC hK hl (t_digit l G (fby vA)) si_X10_86 rfl rfl (Nat.le_of_ble_eq_true rfl) rm_3_2_1 ⟨by first | exact Nat.le_of_ble_eq_true rfl | exact Nat.zero_le _, by first | exact Nat.le_of_ble_eq_true rfl | exact Nat.zero_le _⟩ gX10_advance_5.2.2.2.2.2.2.2.1 (Kors (Keqa fun a2798 => ?_) (Keqa fun a2798 => ?_))
            · have hq2799 := a2798
              refine lv_if_eq (tgt := 169) hx hb gX10_advance_5.2.2.2.2.2.2.2.2.1 (by decide) (fun c9 => absurd c9 (by decide)) (fun _ => ?_)
              refine lv_aload_n hx hb gX10_advance_5.2.2.2.2.2.2.2.2.2 rfl (lv_at0 hl) ?_
              refine lv_bipush (v := (-3)) hx hb gX10_advance_6.1 (by decide) ?_
              refine pf_X10_31 hC rfl hK hP hD hS 0 (ws' := [(h0, oX10 tby (nI kt) tln tsp (-3) (nI vA) (nI vA) tf9), (tby, iA G 240 fby)]) rfl (Nat.le_of_ble_eq_true rfl) rfl rfl rfl gX10_advance_6.2.1 (fun H locs hP hD hS => ?_)
              have keyB : ∀ (nB : Nat) (vB : Nat) (H : Heap) (locs : List Loc) (ls : Array Slot), (vA ≤ vB ∧ vB ≤ kt ∧ kt < vB + nB) → (RUN fby DGT vA vB) → va_PD G A [(h0, oX10 tby (nI kt) tln tsp (-3) (nI vA) (nI vB) tf9), (tby, iA G 240 fby)] H → va_S A s.heap H locs → lv_has ls 1 [(0, .ref h0)] → W p l e (RM 3 0 0) s m ([.ref h0] : List Value).toArray below meth c H locs 0 0 Q0 (F0 m 131 ls []) := by
                intro nB
                induction nB with
                | zero =>
                  intro vB H locs ls hiB hbB hPD hS hl
                  refine Kan2 hPD (fun hP hD => ?_)
                  exact (show False by omega).elim
                | succ nB ihB =>
                  intro vB H locs ls hiB hbB hPD hS hl
                  refine Kan2 hPD (fun hP hD => ?_)
                  refine lv_aload_n hx hb gX10_advance_6.2.2.1 rfl (lv_at0 hl) ?_
                  refine gf_X10_37 hC rfl hK hP 0 rfl rfl gX10_advance_6.2.2.2.1 ?_
                  refine lv_aload_n hx hb gX10_advance_6.2.2.2.2.1 rfl (lv_at0 hl) ?_
                  refine gf_X10_27 hC rfl hK hP 0 rfl rfl gX10_advance_6.2.2.2.2.2.1 ?_
                  refine lv_icmp_ge (tgt := 199) hx hb gX10_advance_6.2.2.2.2.2.2.1 (by decide) (fun c_139_2800 => ?_) (fun c_139_2800 => ?_)
                  · have nb2801 : kt ≤ vB := (nI_leI (a := kt) (b := vB) (by omega) (by omega)).mp c_139_2800
                    obtain ⟨e2, e3⟩ := (TKE.nu (by omega) hq2794 hq2799 (by omega) (by omega) hbB (fun h9 => absurd h9 (by omega)) : CKD fby kt vA = (-3) ∧ TKE fby kt vA = vB)
                    have hP : va_P G.1 vwCl [(h0, oX10 tby (nI kt) tln tsp (CKD fby kt (SK fby kt kn)) (nI (SK fby kt kn)) (nI (TKE fby kt (SK fby kt kn))) tf9), (tby, iA G 240 fby)] H := by rw [hsk, e2, e3]; exact hP
                    have hD : va_D A [(h0, oX10 tby (nI kt) tln tsp (CKD fby kt (SK fby kt kn)) (nI (SK fby kt kn)) (nI (TKE fby kt (SK fby kt kn))) tf9), (tby, iA G 240 fby)] := by rw [hsk, e2, e3]; exact hD
                    refine toQ hQ0 ?_
                    exact RV hC hP hD hS [0, 1] () rfl rfl (by decide) (trivial) gX10_advance_9.2.2.2.2.2.2
                  · have nb2802 : ¬ kt ≤ vB := fun h9 => c_139_2800 ((nI_leI (a := kt) (b := vB) (by omega) (by omega)).mpr h9)
                    refine lv_aload_n hx hb gX10_advance_6.2.2.2.2.2.2.2.1 rfl (lv_at0 hl) ?_
                    refine lv_aload_n hx hb gX10_advance_6.2.2.2.2.2.2.2.2.1 rfl (lv_at0 hl) ?_
                    refine gf_X10_37 hC rfl hK hP 0 rfl rfl gX10_advance_6.2.2.2.2.2.2.2.2.2 ?_
                    refine pV hC hK hl hP hD (t_byteAtI l G h0 vB tby kt tln tsp (-3) (nI vA) (nI vB) tf9 fby (by omega) (hkt)) si_X10_78 [0, 1] sm_0_1 fm_0_1 nd_0_1 rfl rfl rfl rfl rfl (Nat.le_of_ble_eq_true rfl) rm_3_1_2 ⟨by first | exact Nat.le_of_ble_eq_true rfl | exact Nat.zero_le _, by first | exact Nat.le_of_ble_eq_true rfl | exact Nat.zero_le _⟩ gX10_advance_7.1 (Keqr ?_)
                    refine pS hC hK hl (t_digit l G (fby vB)) si_X10_86 rfl rfl (Nat.le_of_ble_eq_true rfl) rm_3_2_1 ⟨by first | exact Nat.le_of_ble_eq_true rfl | exact Nat.zero_le _, by first | exact Nat.le_of_ble_eq_true rfl | exact Nat.zero_le _⟩ gX10_advance_7.2.1 (Kors (Keqa fun a2806 => ?_) (Keqa fun a2806 => ?_))
                    · have hq2807 := a2806
                      refine lv_if_eq (tgt := 199) hx hb gX10_advance_7.2.2.1 (by decide) (fun c9 => absurd c9 (by decide)) (fun _ => ?_)
                      refine lv_aload_n hx hb gX10_advance_7.2.2.2.1 rfl (lv_at0 hl) ?_
                      refine lv_dup hx hb gX10_advance_7.2.2.2.2.1 rfl ?_
                      refine gf_X10_37 hC rfl hK hP 0 rfl rfl gX10_advance_7.2.2.2.2.2.1 ?_
                      refine lv_iconst (v := 1) hx hb gX10_advance_7.2.2.2.2.2.2.1 (by decide) ?_
                      refine lv_iadd hx hb gX10_advance_7.2.2.2.2.2.2.2.1 ?_
                      refine eqi (x1 := nI (vB + 1)) (nI_add vB 1) ?_
                      refine pf_X10_37 hC rfl hK hP hD hS 0 (ws' := [(h0, oX10 tby (nI kt) tln tsp (-3) (nI vA) (nI (vB + 1)) tf9), (tby, iA G 240 fby)]) rfl (Nat.le_of_ble_eq_true rfl) rfl rfl rfl gX10_advance_7.2.2.2.2.2.2.2.2.1 (fun H locs hP hD hS => ?_)
                      refine lv_goto (tgt := 131) hx hb gX10_advance_7.2.2.2.2.2.2.2.2.2 (by decide) ?_
                      exact ihB (vB + 1) _ _ _ (by omega) (hbB.next hq2807) (And.intro hP hD) hS (lv_sub hl [0] rfl)
                    · have hq2808 := a2806
                      refine lv_if_eq (tgt := 199) hx hb gX10_advance_7.2.2.1 (by decide) (fun _ => ?_) (fun c9 => absurd (by decide) c9)
                      obtain ⟨e2, e3⟩ := (TKE.nu (by omega) hq2794 hq2799 (by omega) (by omega) hbB (fun _ => hq2808) : CKD fby kt vA = (-3) ∧ TKE fby kt vA = vB)
                      have hP : va_P G.1 vwCl [(h0, oX10 tby (nI kt) tln tsp (CKD fby kt (SK fby kt kn)) (nI (SK fby kt kn)) (nI (TKE fby kt (SK fby kt kn))) tf9), (tby, iA G 240 fby)] H := by rw [hsk, e2, e3]; exact hP
                      have hD : va_D A [(h0, oX10 tby (nI kt) tln tsp (CKD fby kt (SK fby kt kn)) (nI (SK fby kt kn)) (nI (TKE fby kt (SK fby kt kn))) tf9), (tby, iA G 240 fby)] := by rw [hsk, e2, e3]; exact hD
                      refine toQ hQ0 ?_
                      exact RV hC hP hD hS [0, 1] () rfl rfl (by decide) (trivial) gX10_advance_9.2.2.2.2.2.2
              exact keyB (kt + 1) vA _ _ _ (by omega) (RUN.zero) (And.intro hP hD) hS (lv_sub hl [0] rfl)
            · have hq2809 := a2798
              refine lv_if_eq (tgt := 169) hx hb gX10_advance_5.2.2.2.2.2.2.2.2.1 (by decide) (fun _ => ?_) (fun c9 => absurd (by decide) c9)
              refine lv_aload_n hx hb gX10_advance_8.1 rfl (lv_at0 hl) ?_
              refine lv_aload_n hx hb gX10_advance_8.2.1 rfl (lv_at0 hl) ?_
              refine lv_aload_n hx hb gX10_advance_8.2.2.1 rfl (lv_at0 hl) ?_
              refine gf_X10_34 hC rfl hK hP 0 rfl rfl gX10_advance_8.2.2.2.1 ?_
              refine pV hC hK hl hP hD (t_byteAtI l G h0 vA tby kt tln tsp tkd (nI vA) (nI vA) tf9 fby (by omega) (hkt)) si_X10_78 [0, 1] sm_0_1 fm_0_1 nd_0_1 rfl rfl rfl rfl rfl (Nat.le_of_ble_eq_true rfl) rm_3_1_2 ⟨by first | exact Nat.le_of_ble_eq_true rfl | exact Nat.zero_le _, by first | exact Nat.le_of_ble_eq_true rfl | exact Nat.zero_le _⟩ gX10_advance_8.2.2.2.2.1 (Keqr ?_)
              refine pf_X10_31 hC rfl hK hP hD hS 0 (ws' := [(h0, oX10 tby (nI kt) tln tsp (fby vA) (nI vA) (nI vA) tf9), (tby, iA G 240 fby)]) rfl (Nat.le_of_ble_eq_true rfl) rfl rfl rfl gX10_advance_8.2.2.2.2.2.1 (fun H locs hP hD hS => ?_)
              refine lv_aload_n hx hb gX10_advance_8.2.2.2.2.2.2.1 rfl (lv_at0 hl) ?_
              refine gf_X10_31 hC rfl hK hP 0 rfl rfl gX10_advance_8.2.2.2.2.2.2.2.1 ?_
              refine lv_iconst (v := (-1)) hx hb gX10_advance_8.2.2.2.2.2.2.2.2.1 (by decide) ?_
              refine lv_icmp_eq (tgt := 199) hx hb gX10_advance_8.2.2.2.2.2.2.2.2.2 (by decide) (fun c9 => absurd c9 (fun h9 => hBB vA (by omega) (by rw [h9]; decide))) (fun _ => ?_)
              refine lv_aload_n hx hb gX10_advance_9.1 rfl (lv_at0 hl) ?_
              refine lv_dup hx hb gX10_advance_9.2.1 rfl ?_
              refine gf_X10_37 hC rfl hK hP 0 rfl rfl gX10_advance_9.2.2.1 ?_
              refine lv_iconst (v := 1) hx hb gX10_advance_9.2.2.2.1 (by decide) ?_
              refine lv_iadd hx hb gX10_advance_9.2.2.2.2.1 ?_
              refine eqi (x1 := nI (vA + 1)) (nI_add vA 1) ?_
              refine pf_X10_37 hC rfl hK hP hD hS 0 (ws' := [(h0, oX10 tby (nI kt) tln tsp (fby vA) (nI vA) (nI (vA + 1)) tf9), (tby, iA G 240 fby)]) rfl (Nat.le_of_ble_eq_true rfl) rfl rfl rfl gX10_advance_9.2.2.2.2.2.1 (fun H locs hP hD hS => ?_)
              obtain ⟨e2, e3⟩ := (TKE.by9 (by omega) hq2794 hq2809 : CKD fby kt vA = fby vA ∧ TKE fby kt vA = (vA + 1))
              have hP : va_P G.1 vwCl [(h0, oX10 tby (nI kt) tln tsp (CKD fby kt (SK fby kt kn)) (nI (SK fby kt kn)) (nI (TKE fby kt (SK fby kt kn))) tf9), (tby, iA G 240 fby)] H := by rw [hsk, e2, e3]; exact hP
              have hD : va_D A [(h0, oX10 tby (nI kt) tln tsp (CKD fby kt (SK fby kt kn)) (nI (SK fby kt kn)) (nI (TKE fby kt (SK fby kt kn))) tf9), (tby, iA G 240 fby)] := by rw [hsk, e2, e3]; exact hD
              refine toQ hQ0 ?_
              exact RV hC hP hD hS [0, 1] () rfl rfl (by decide) (trivial) gX10_advance_9.2.2.2.2.2.2
        · refine lv_aload_n hx hb gX10_advance_1.2.2.2.2.2.1 rfl (lv_at0 hl) ?_
          refine lv_dup hx hb gX10_advance_1.2.2.2.2.2.2.1 rfl ?_
          refine gf_X10_34 hC rfl hK hP 0 rfl rfl gX10_advance_1.2.2.2.2.2.2.2.1 ?_
          refine lv_iconst (v := 1) hx hb gX10_advance_1.2.2.2.2.2.2.2.2.1 (by decide) ?_
          refine lv_iadd hx hb gX10_advance_1.2.2.2.2.2.2.2.2.2 ?_
          refine eqi (x1 := nI (vA + 1)) (nI_add vA 1) ?_
          refine pf_X10_34 hC rfl hK hP hD hS 0 (ws' := [(h0, oX10 tby (nI kt) tln tsp tkd (nI (vA + 1)) (nI kn) tf9), (tby, iA G 240 fby)]) rfl (Nat.le_of_ble_eq_true rfl) rfl rfl rfl gX10_advance_2.1 (fun H locs hP hD hS => ?_)
          refine lv_goto (tgt := 8) hx hb gX10_advance_2.2.1 (by decide) ?_
          exact ihA (vA + 1) _ _ _ (by omega) (hbA.next c_29_2779) (And.intro hP hD) hS (lv_sub hl [0] rfl)
  exact keyA (kt + 1) kn _ _ _ (by omega) (RUN.zero) (And.intro hP hD) hS (lv_sub hl [0] rfl)
theorem t_advT (l : Launch) (G : GG) (h0 : Nat) (tby : Nat) (kt : Nat) (tln : Nat) (tsp : Nat) (ks : Nat) (tf9 : Int32) (fby : Nat → Int32) (hkt : kt ≤ 240) (hks : ks ≤ kt) (hBB : BNN fby kt) : MV l G yX10_advance cX10_advance 1 3 0 0 [.ref h0] [(h0, oX10 tby (nI kt) tln tsp (CKD fby kt ks) (nI ks) (nI (TKE fby kt ks)) tf9), (tby, iA G 240 fby)] (fun u : Unit => True) (fun u : Unit => [(h0, oX10 tby (nI kt) tln tsp (CKD fby kt (NXT fby kt ks)) (nI (NXT fby kt ks)) (nI (TKE fby kt (NXT fby kt ks))) tf9), (tby, iA G 240 fby)]) := t_adv l G h0 tby kt tln tsp (CKD fby kt ks) (nI ks) (TKE fby kt ks) tf9 fby hkt (TKE.ge hks).2.1 hBB
def K_t_isName (l : Launch) (G : GG) (K : OO) (i9 : Nat) (h0 : Nat) (tby : Nat) (kt : Nat) (tln : Nat) (tsp : Nat) (ks : Nat) (tf9 : Int32) (fby : Nat → Int32) : Prop := MPo l G K yX10_isName cX10_isName 3 (some .boolean) 6 [.ref h0, .ref (K.1 i9)] [(h0, oX10 tby (nI kt) tln tsp (CKD fby kt ks) (nI ks) (nI (TKE fby kt ks)) tf9), (tby, iA G 240 fby)] (fun r : Int32 => (r = 1 ∧ WRD fby kt ks i9) ∨ (r = 0 ∧ ¬ WRD fby kt ks i9))
set_option maxHeartbeats 4000000 in
set_option maxRecDepth 100000 in
theorem t_isName (l : Launch) (G : GG) (K : OO) (i9 : Nat) (h0 : Nat) (tby : Nat) (kt : Nat) (tln : Nat) (tsp : Nat) (ks : Nat) (tf9 : Int32) (fby : Nat → Int32) (hkt : kt ≤ 240) (hks : ks ≤ kt) (hBB : BNN fby kt) (hi9 : i9 < 16) : K_t_isName l G K i9 h0 tby kt tln tsp ks tf9 fby := by
  refine MPo.start (by decide +kernel) (Nat.le_of_ble_eq_true rfl) ?_
  intro p e s m below meth c ls hC hK hP hD hl hO hS
  refine absQ (fun Q0 hQ0 => ?_)
  have hl : lv_has ls 3 [(0, .ref h0), (1, .ref (K.1 i9))] := hl
  refine Kan8 hC (fun hx hb hr hml hB hown hlocks hnm => ?_)
  have tk0 := TKE.ge (bt := fby) (n := kt) (s := ks) hks
  have hs6 := slen6 i9 hi9
  refine lv_aload_n hx hb gX10_isName_0.1 rfl (lv_at0 hl) ?_
  refine gf_X10_31 hC rfl hK hP 0 rfl rfl gX10_isName_0.2.1 ?_
  refine lv_bipush (v := (-2)) hx hb gX10_isName_0.2.2.1 (by decide) ?_
  refine lv_icmp_ne (tgt := 25) hx hb gX10_isName_0.2.2.2.1 (by decide) (fun c_6_2812 => ?_) (fun c_6_2812 => ?_)
  · refine lv_iconst (v := 0) hx hb gX10_isName_1.2.2.1 (by decide) ?_
    refine toQ hQ0 ?_
    exact RP (v := 0) hC (Or.inr ⟨rfl, fun h9 => c_6_2812 ((CKD.nm hBB).mpr h9.1)⟩) (by decide +kernel) gX10_isName_1.2.2.2.1
  · refine lv_aload_n hx hb gX10_isName_0.2.2.2.2.1 rfl (lv_at0 hl) ?_
    refine gf_X10_37 hC rfl hK hP 0 rfl rfl gX10_isName_0.2.2.2.2.2.1 ?_
    refine lv_aload_n hx hb gX10_isName_0.2.2.2.2.2.2.1 rfl (lv_at0 hl) ?_
    refine gf_X10_34 hC rfl hK hP 0 rfl rfl gX10_isName_0.2.2.2.2.2.2.2.1 ?_
    refine lv_isub hx hb gX10_isName_0.2.2.2.2.2.2.2.2.1 ?_
    refine eqi (x1 := nI (TKE fby kt ks - ks)) (nI_subT (by omega)) ?_
    refine lv_aload_n hx hb gX10_isName_0.2.2.2.2.2.2.2.2.2 rfl (lv_at1 hl) ?_
    refine pTo (i := i9) (hi9) hO hS hC hK hl (j_len l G K i9 ((hi9))) si_X10_93 rfl rfl (Nat.le_of_ble_eq_true rfl) rm_6_2_1 ⟨by first | exact Nat.le_of_ble_eq_true rfl | exact Nat.zero_le _, by first | exact Nat.le_of_ble_eq_true rfl | exact Nat.zero_le _⟩ gX10_isName_1.1 (fun r2813 hr2813 => ?_)
    obtain rfl := hr2813
    refine lv_icmp_eq (tgt := 27) hx hb gX10_isName_1.2.1 (by decide) (fun c_22_2815 => ?_) (fun c_22_2815 => ?_)
    · have nb2816 : (TKE fby kt ks - ks) = (SLEN.getD i9 0) := (nI_eq (a := (TKE fby kt ks - ks)) (b := (SLEN.getD i9 0)) (by omega) (by omega)).mp c_22_2815
      refine lv_iconst (v := 0) hx hb gX10_isName_1.2.2.2.2.1 (by decide) ?_
      refine lv_istore_n (lv' := [(2, .int 0), (0, .ref h0), (1, .ref (K.1 i9))]) hx hb gX10_isName_1.2.2.2.2.2.1 rfl hl (by decide) rfl (fun ls hl => ?_)
      have keyP : ∀ (nP kP : Nat) (ls : Array Slot), kP + nP = (SLEN.getD i9 0) → (WDP fby ks i9 kP) → lv_has ls 3 [(2, .int (nI kP)), (0, .ref h0), (1, .ref (K.1 i9))] → W p l e (RM 6 0 0) s m ([.ref h0, .ref (K.1 i9)] : List Value).toArray below meth c s.heap [] 0 0 Q0 (F0 m 29 ls []) := by
        intro nP
        induction nP with
        | zero =>
          intro kP ls hkP hwp hl
          obtain rfl : (SLEN.getD i9 0) = kP := by omega
          have hl : lv_has ls 3 [(2, .int (nI (SLEN.getD i9 0))), (0, .ref h0), (1, .ref (K.1 i9))] := hl
          refine lv_iload_n hx hb gX10_isName_1.2.2.2.2.2.2.1 rfl (lv_at0 hl) ?_
          refine lv_aload_n hx hb gX10_isName_1.2.2.2.2.2.2.2.1 rfl (lv_at2 hl) ?_
          refine pTo (i := i9) (hi9) hO hS hC hK hl (j_len l G K i9 ((hi9))) si_X10_93 rfl rfl (Nat.le_of_ble_eq_true rfl) rm_6_2_1 ⟨by first | exact Nat.le_of_ble_eq_true rfl | exact Nat.zero_le _, by first | exact Nat.le_of_ble_eq_true rfl | exact Nat.zero_le _⟩ gX10_isName_1.2.2.2.2.2.2.2.2.1 (fun r2818 hr2818 => ?_)
          obtain rfl := hr2818
          refine lv_icmp_ge (tgt := 63) hx hb gX10_isName_1.2.2.2.2.2.2.2.2.2 (by decide) (fun _ => ?_) (fun c9 => absurd (Int32.le_refl _) c9)
          refine lv_iconst (v := 1) hx hb gX10_isName_3.2.2.2.2.1 (by decide) ?_
          refine toQ hQ0 ?_
          exact RP (v := 1) hC (Or.inl ⟨rfl, WRD.of ((CKD.nm hBB).mp c_6_2812) (by omega) (by omega) hwp⟩) (by decide +kernel) gX10_isName_3.2.2.2.2.2
        | succ nP ihP =>
          intro kP ls hkP hwp hl
          refine lv_iload_n hx hb gX10_isName_1.2.2.2.2.2.2.1 rfl (lv_at0 hl) ?_
          refine lv_aload_n hx hb gX10_isName_1.2.2.2.2.2.2.2.1 rfl (lv_at2 hl) ?_
          refine pTo (i := i9) (hi9) hO hS hC hK hl (j_len l G K i9 ((hi9))) si_X10_93 rfl rfl (Nat.le_of_ble_eq_true rfl) rm_6_2_1 ⟨by first | exact Nat.le_of_ble_eq_true rfl | exact Nat.zero_le _, by first | exact Nat.le_of_ble_eq_true rfl | exact Nat.zero_le _⟩ gX10_isName_1.2.2.2.2.2.2.2.2.1 (fun r2820 hr2820 => ?_)
          obtain rfl := hr2820
          refine lv_icmp_ge (tgt := 63) hx hb gX10_isName_1.2.2.2.2.2.2.2.2.2 (by decide) (fun c9 => absurd c9 (nI_ge (a := kP) (b := (SLEN.getD i9 0)) (by omega) (by omega))) (fun _ => ?_)
          refine lv_aload_n hx hb gX10_isName_2.1 rfl (lv_at1 hl) ?_
          refine lv_aload_n hx hb gX10_isName_2.2.1 rfl (lv_at1 hl) ?_
          refine gf_X10_34 hC rfl hK hP 0 rfl rfl gX10_isName_2.2.2.1 ?_
          refine lv_iload_n hx hb gX10_isName_2.2.2.2.1 rfl (lv_at0 hl) ?_
          refine lv_iadd hx hb gX10_isName_2.2.2.2.2.1 ?_
          refine eqi (x1 := nI (ks + kP)) (nI_add ks kP) ?_
          refine pV hC hK hl hP hD (t_byteAtI l G h0 (ks + kP) tby kt tln tsp (CKD fby kt ks) (nI ks) (nI (TKE fby kt ks)) tf9 fby (by omega) (hkt)) si_X10_78 [0, 1] sm_0_1 fm_0_1 nd_0_1 rfl rfl rfl rfl rfl (Nat.le_of_ble_eq_true rfl) rm_6_1_2 ⟨by first | exact Nat.le_of_ble_eq_true rfl | exact Nat.zero_le _, by first | exact Nat.le_of_ble_eq_true rfl | exact Nat.zero_le _⟩ gX10_isName_2.2.2.2.2.2.1 (Keqr ?_)
          refine lv_aload_n hx hb gX10_isName_2.2.2.2.2.2.2.1 rfl (lv_at2 hl) ?_
          refine lv_iload_n hx hb gX10_isName_2.2.2.2.2.2.2.2.1 rfl (lv_at0 hl) ?_
          refine pTo (i := i9) (hi9) hO hS hC hK hl (j_chr l G K i9 kP ((hi9)) (by omega)) si_X10_98 rfl rfl (Nat.le_of_ble_eq_true rfl) rm_6_4_2 ⟨by first | exact Nat.le_of_ble_eq_true rfl | exact Nat.zero_le _, by first | exact Nat.le_of_ble_eq_true rfl | exact Nat.zero_le _⟩ gX10_isName_2.2.2.2.2.2.2.2.2.1 (fun r2824 hr2824 => ?_)
          obtain rfl := hr2824
          refine lv_icmp_eq (tgt := 57) hx hb gX10_isName_2.2.2.2.2.2.2.2.2.2 (by decide) (fun c_52_2826 => ?_) (fun c_52_2826 => ?_)
          · refine lv_iinc (v := nI (kP + 1)) (lv' := [(2, .int (nI (kP + 1))), (0, .ref h0), (1, .ref (K.1 i9))]) hx hb gX10_isName_3.2.2.1 hl (k := 0) rfl (nI_1 _) (by decide) rfl (fun ls hl => ?_)
            refine lv_goto (tgt := 29) hx hb gX10_isName_3.2.2.2.1 (by decide) ?_
            exact ihP (kP + 1) _ (by omega) (by first | assumption | exact Or.inl rfl | exact Or.inr rfl | exact WDP.zero | exact hwp.next (by assumption)) (lv_sub hl [0, 1, 2] rfl)
          · refine lv_iconst (v := 0) hx hb gX10_isName_3.1 (by decide) ?_
            refine toQ hQ0 ?_
            exact RP (v := 0) hC (Or.inr ⟨rfl, fun h9 => c_52_2826 (h9.2.2 kP (by omega))⟩) (by decide +kernel) gX10_isName_3.2.1
      exact keyP (SLEN.getD i9 0) 0 _ (by omega) (by first | assumption | exact Or.inl rfl | exact Or.inr rfl | exact WDP.zero | exact hwp.next (by assumption)) (lv_sub hl [0, 1, 2] rfl)
    · have nb2817 : ¬ (TKE fby kt ks - ks) = (SLEN.getD i9 0) := fun h9 => c_22_2815 ((nI_eq (a := (TKE fby kt ks - ks)) (b := (SLEN.getD i9 0)) (by omega) (by omega)).mpr h9)
      refine lv_iconst (v := 0) hx hb gX10_isName_1.2.2.1 (by decide) ?_
      refine toQ hQ0 ?_
      exact RP (v := 0) hC (Or.inr ⟨rfl, fun h9 => absurd h9.2.1 (by omega)⟩) (by decide +kernel) gX10_isName_1.2.2.2.1
def K_t_takesName (l : Launch) (G : GG) (K : OO) (i9 : Nat) (h0 : Nat) (tby : Nat) (kt : Nat) (tln : Nat) (tsp : Nat) (ks : Nat) (tf9 : Int32) (fby : Nat → Int32) : Prop := MIo l G K yX10_takesName cX10_takesName 2 (some .boolean) 7 0 0 [.ref h0, .ref (K.1 i9)] [(h0, oX10 tby (nI kt) tln tsp (CKD fby kt ks) (nI ks) (nI (TKE fby kt ks)) tf9), (tby, iA G 240 fby)] (fun (r : Int32) (u : Nat × Int32) => ((r = 1 ∧ WRD fby kt ks i9 ∧ NXT fby kt ks = u.1 ∧ tf9 = u.2) ∨ (r = 0 ∧ ¬ WRD fby kt ks i9 ∧ ks = u.1 ∧ nI ks = u.2))) (fun u : Nat × Int32 => [(h0, oX10 tby (nI kt) tln tsp (CKD fby kt u.1) (nI u.1) (nI (TKE fby kt u.1)) u.2), (tby, iA G 240 fby)])
set_option maxHeartbeats 4000000 in
set_option maxRecDepth 100000 in
theorem t_takesName (l : Launch) (G : GG) (K : OO) (i9 : Nat) (h0 : Nat) (tby : Nat) (kt : Nat) (tln : Nat) (tsp : Nat) (ks : Nat) (tf9 : Int32) (fby : Nat → Int32) (hkt : kt ≤ 240) (hks : ks ≤ kt) (hBB : BNN fby kt) (hi9 : i9 < 16) : K_t_takesName l G K i9 h0 tby kt tln tsp ks tf9 fby := by
  refine MIo.start (by decide +kernel) (Nat.le_of_ble_eq_true rfl) ?_
  intro p e s m below meth c A ls hC hK hP hD hS hA hl hO
  refine absQ (fun Q0 hQ0 => ?_)
  have hl : lv_has ls 2 [(0, .ref h0), (1, .ref (K.1 i9))] := hl
  refine Kan8 hC (fun hx hb hr hml hB hown hlocks hnm => ?_)
  have tk0 := TKE.ge (bt := fby) (n := kt) (s := ks) hks
  refine lv_aload_n hx hb gX10_takesName_0.1 rfl (lv_at0 hl) ?_
  refine lv_aload_n hx hb gX10_takesName_0.2.1 rfl (lv_at1 hl) ?_
  refine pVo hO hS hC hK hl hP hD (t_isName l G K i9 h0 tby kt tln tsp ks tf9 fby (hkt) (hks) (hBB) ((hi9))) si_X10_102 [0, 1] sm_0_1 fm_0_1 nd_0_1 rfl rfl rfl rfl rfl (Nat.le_of_ble_eq_true rfl) rm_7_6_3 ⟨by first | exact Nat.le_of_ble_eq_true rfl | exact Nat.zero_le _, by first | exact Nat.le_of_ble_eq_true rfl | exact Nat.zero_le _⟩ gX10_takesName_0.2.2.1 (Kors (Keqa fun a2828 => ?_) (Keqa fun a2828 => ?_))
  · have hq2829 := a2828
    have xl2830 : ks + SLEN.getD i9 0 ≤ NXT fby kt ks ∧ NXT fby kt ks ≤ kt := WRD.len hq2829 (by omega)
    refine lv_if_ne (tgt := 13) hx hb gX10_takesName_0.2.2.2.1 (by decide) (fun _ => ?_) (fun c9 => absurd c9 (by decide))
    refine lv_aload_n hx hb gX10_takesName_0.2.2.2.2.2.2.2.1 rfl (lv_at0 hl) ?_
    refine vV (wr := []) hC hK hl hP hD hS hA (t_advT l G h0 tby kt tln tsp ks tf9 fby (hkt) (hks) (hBB)) si_X10_47 [0, 1] [] sm_0_1 fm_0_1 nd_0_1 rfl rfl (by decide) rfl rfl rfl rfl rfl (Nat.le_of_ble_eq_true rfl) rm_7_3_1 ⟨Nat.le_of_ble_eq_true rfl, Nat.le_of_ble_eq_true rfl⟩ gX10_takesName_0.2.2.2.2.2.2.2.2.1 (fun u2832 H locs hr2831 hP hD hS => ?_)
    refine Kpdr (ws := [(h0, oX10 tby (nI kt) tln tsp (CKD fby kt (NXT fby kt ks)) (nI (NXT fby kt ks)) (nI (TKE fby kt (NXT fby kt ks))) tf9), (tby, iA G 240 fby)]) hP hD (fun hP hD => ?_)
    have xn2833 := NXT.ge (bt := fby) (n := kt) (s := ks) (by omega)
    refine lv_iconst (v := 1) hx hb gX10_takesName_0.2.2.2.2.2.2.2.2.2 (by decide) ?_
    refine toQ hQ0 ?_
    exact RI (v := 1) hC hP hD hS [0, 1] ((NXT fby kt ks), tf9) rfl rfl (by decide) (Or.inl ⟨rfl, hq2829, rfl, rfl⟩) (by decide +kernel) gX10_takesName_1
  · have hq2834 := a2828
    refine lv_if_ne (tgt := 13) hx hb gX10_takesName_0.2.2.2.1 (by decide) (fun c9 => absurd (by decide) c9) (fun _ => ?_)
    refine lv_aload_n hx hb gX10_takesName_0.2.2.2.2.1 rfl (lv_at0 hl) ?_
    refine iV (wr := [(tby, iA G 240 fby)]) hC hK hl hP hD hS hA (t_refuseX l G h0 tby kt tln tsp (CKD fby kt ks) ks (TKE fby kt ks) tf9) si_X10_106 [0] [1] sm_0 fm_0 nd_0 sm_1 nd_1 dj_0__1 rfl rfl rfl rfl rfl (Nat.le_of_ble_eq_true rfl) rm_7_1_1 ⟨Nat.le_of_ble_eq_true rfl, Nat.le_of_ble_eq_true rfl⟩ gX10_takesName_0.2.2.2.2.2.1 (fun r2835 u2836 H locs hr2835 hP hD hS => ?_)
    refine Kpdr (ws := [(tby, iA G 240 fby), (h0, oX10 tby (nI kt) tln tsp (CKD fby kt ks) (nI ks) (nI (TKE fby kt ks)) (nI ks))]) hP hD (fun hP hD => ?_)
    obtain rfl := hr2835
    refine toQ hQ0 ?_
    exact RI (v := 0) hC hP hD hS [1, 0] (ks, nI ks) rfl rfl (by decide) (Or.inr ⟨rfl, hq2834, rfl, rfl⟩) (by decide +kernel) gX10_takesName_0.2.2.2.2.2.2.1
def K_t_takesByte (l : Launch) (G : GG) (h0 : Nat) (b9 : Int32) (tby : Nat) (kt : Nat) (tln : Nat) (tsp : Nat) (ks : Nat) (tf9 : Int32) (fby : Nat → Int32) : Prop := MI l G yX10_takesByte cX10_takesByte 2 (some .boolean) 4 0 0 [.ref h0, .int b9] [(h0, oX10 tby (nI kt) tln tsp (CKD fby kt ks) (nI ks) (nI (TKE fby kt ks)) tf9), (tby, iA G 240 fby)] (fun (r : Int32) (u : Nat × Int32) => ((r = 1 ∧ SGN fby kt ks b9 ∧ NXT fby kt ks = u.1 ∧ tf9 = u.2) ∨ (r = 0 ∧ ¬ SGN fby kt ks b9 ∧ ks = u.1 ∧ nI ks = u.2))) (fun u : Nat × Int32 => [(h0, oX10 tby (nI kt) tln tsp (CKD fby kt u.1) (nI u.1) (nI (TKE fby kt u.1)) u.2), (tby, iA G 240 fby)])
set_option maxHeartbeats 4000000 in
set_option maxRecDepth 100000 in
theorem t_takesByte (l : Launch) (G : GG) (h0 : Nat) (b9 : Int32) (tby : Nat) (kt : Nat) (tln : Nat) (tsp : Nat) (ks : Nat) (tf9 : Int32) (fby : Nat → Int32) (hkt : kt ≤ 240) (hks : ks ≤ kt) (hBB : BNN fby kt) (hb9 : ¬ b9 < 0) : K_t_takesByte l G h0 b9 tby kt tln tsp ks tf9 fby := by
  refine MI.start (by decide +kernel) (Nat.le_of_ble_eq_true rfl) ?_
  intro p e s m below meth c A ls hC hK hP hD hS hA hl
  refine absQ (fun Q0 hQ0 => ?_)
  have hl : lv_has ls 2 [(0, .ref h0), (1, .int b9)] := hl
  refine Kan8 hC (fun hx hb hr hml hB hown hlocks hnm => ?_)
  have tk0 := TKE.ge (bt := fby) (n := kt) (s := ks) hks
  refine lv_aload_n hx hb gX10_takesByte_0.1 rfl (lv_at0 hl) ?_
  refine gf_X10_31 hC rfl hK hP 0 rfl rfl gX10_takesByte_0.2.1 ?_
  refine lv_iload_n hx hb gX10_takesByte_0.2.2.1 rfl (lv_at1 hl) ?_
  refine lv_icmp_eq (tgt := 13) hx hb gX10_takesByte_0.2.2.2.1 (by decide) (fun c_5_2838 => ?_) (fun c_5_2838 => ?_)
  · refine lv_aload_n hx hb gX10_takesByte_0.2.2.2.2.2.2.2.1 rfl (lv_at0 hl) ?_
    refine vV (wr := []) hC hK hl hP hD hS hA (t_advT l G h0 tby kt tln tsp ks tf9 fby (hkt) (hks) (hBB)) si_X10_47 [0, 1] [] sm_0_1 fm_0_1 nd_0_1 rfl rfl (by decide) rfl rfl rfl rfl rfl (Nat.le_of_ble_eq_true rfl) rm_4_3_1 ⟨Nat.le_of_ble_eq_true rfl, Nat.le_of_ble_eq_true rfl⟩ gX10_takesByte_0.2.2.2.2.2.2.2.2.1 (fun u2840 H locs hr2839 hP hD hS => ?_)
    refine Kpdr (ws := [(h0, oX10 tby (nI kt) tln tsp (CKD fby kt (NXT fby kt ks)) (nI (NXT fby kt ks)) (nI (TKE fby kt (NXT fby kt ks))) tf9), (tby, iA G 240 fby)]) hP hD (fun hP hD => ?_)
    have xn2841 := NXT.ge (bt := fby) (n := kt) (s := ks) (by omega)
    refine lv_iconst (v := 1) hx hb gX10_takesByte_0.2.2.2.2.2.2.2.2.2 (by decide) ?_
    refine toQ hQ0 ?_
    exact RI (v := 1) hC hP hD hS [0, 1] ((NXT fby kt ks), tf9) rfl rfl (by decide) (Or.inl ⟨rfl, (CKD.sg hBB hb9).mp c_5_2838, rfl, rfl⟩) (by decide +kernel) gX10_takesByte_1
  · refine lv_aload_n hx hb gX10_takesByte_0.2.2.2.2.1 rfl (lv_at0 hl) ?_
    refine iV (wr := [(tby, iA G 240 fby)]) hC hK hl hP hD hS hA (t_refuseX l G h0 tby kt tln tsp (CKD fby kt ks) ks (TKE fby kt ks) tf9) si_X10_106 [0] [1] sm_0 fm_0 nd_0 sm_1 nd_1 dj_0__1 rfl rfl rfl rfl rfl (Nat.le_of_ble_eq_true rfl) rm_4_1_1 ⟨Nat.le_of_ble_eq_true rfl, Nat.le_of_ble_eq_true rfl⟩ gX10_takesByte_0.2.2.2.2.2.1 (fun r2842 u2843 H locs hr2842 hP hD hS => ?_)
    refine Kpdr (ws := [(tby, iA G 240 fby), (h0, oX10 tby (nI kt) tln tsp (CKD fby kt ks) (nI ks) (nI (TKE fby kt ks)) (nI ks))]) hP hD (fun hP hD => ?_)
    obtain rfl := hr2842
    refine toQ hQ0 ?_
    exact RI (v := 0) hC hP hD hS [1, 0] (ks, nI ks) rfl rfl (by decide) (Or.inr ⟨rfl, fun h9 => c_5_2838 ((CKD.sg hBB hb9).mpr h9), rfl, rfl⟩) (by decide +kernel) gX10_takesByte_0.2.2.2.2.2.2.1
def K_t_numberHere (l : Launch) (G : GG) (h0 : Nat) (tby : Nat) (kt : Nat) (tln : Nat) (tsp : Nat) (ks : Nat) (tf9 : Int32) (fby : Nat → Int32) : Prop := MP l G yX10_numberHere cX10_numberHere 3 (some .int) 3 [.ref h0] [(h0, oX10 tby (nI kt) tln tsp (CKD fby kt ks) (nI ks) (nI (TKE fby kt ks)) tf9), (tby, iA G 240 fby)] (fun r : Int32 => (r = (-1) ∧ NMO fby kt ks = none) ∨ (r = nI (NVL fby kt ks) ∧ NMO fby kt ks = some (NVL fby kt ks) ∧ NVL fby kt ks ≤ 999))
set_option maxHeartbeats 4000000 in
set_option maxRecDepth 100000 in
theorem t_numberHere (l : Launch) (G : GG) (h0 : Nat) (tby : Nat) (kt : Nat) (tln : Nat) (tsp : Nat) (ks : Nat) (tf9 : Int32) (fby : Nat → Int32) (hkt : kt ≤ 240) (hks : ks ≤ kt) (hBB : BNN fby kt) : K_t_numberHere l G h0 tby kt tln tsp ks tf9 fby := by
  refine MP.start (by decide +kernel) (Nat.le_of_ble_eq_true rfl) ?_
  intro p e s m below meth c ls hC hK hP hD hl
  refine absQ (fun Q0 hQ0 => ?_)
  have hl : lv_has ls 3 [(0, .ref h0)] := hl
  refine Kan8 hC (fun hx hb hr hml hB hown hlocks hnm => ?_)
  have tk0 := TKE.ge (bt := fby) (n := kt) (s := ks) hks
  refine lv_aload_n hx hb gX10_numberHere_0.1 rfl (lv_at0 hl) ?_
  refine gf_X10_31 hC rfl hK hP 0 rfl rfl gX10_numberHere_0.2.1 ?_
  refine lv_bipush (v := (-3)) hx hb gX10_numberHere_0.2.2.1 (by decide) ?_
  refine lv_icmp_ne (tgt := 22) hx hb gX10_numberHere_0.2.2.2.1 (by decide) (fun c_6_2845 => ?_) (fun c_6_2845 => ?_)
  · refine lv_iconst (v := (-1)) hx hb gX10_numberHere_1.2.1 (by decide) ?_
    refine toQ hQ0 ?_
    exact RP (v := (-1)) hC (Or.inl ⟨rfl, NMO.n (fun h9 => c_6_2845 ((CKD.nu hBB).mpr h9.1))⟩) rfl gX10_numberHere_1.2.2.1
  · refine lv_aload_n hx hb gX10_numberHere_0.2.2.2.2.1 rfl (lv_at0 hl) ?_
    refine gf_X10_37 hC rfl hK hP 0 rfl rfl gX10_numberHere_0.2.2.2.2.2.1 ?_
    refine lv_aload_n hx hb gX10_numberHere_0.2.2.2.2.2.2.1 rfl (lv_at0 hl) ?_
    refine gf_X10_34 hC rfl hK hP 0 rfl rfl gX10_numberHere_0.2.2.2.2.2.2.2.1 ?_
    refine lv_isub hx hb gX10_numberHere_0.2.2.2.2.2.2.2.2.1 ?_
    refine eqi (x1 := nI (TKE fby kt ks - ks)) (nI_subT (by omega)) ?_
    refine lv_iconst (v := 3) hx hb gX10_numberHere_0.2.2.2.2.2.2.2.2.2 (by decide) ?_
    refine lv_icmp_le (tgt := 24) hx hb gX10_numberHere_1.1 (by decide) (fun c_19_2846 => ?_) (fun c_19_2846 => ?_)
    · have nb2847 : (TKE fby kt ks - ks) ≤ 3 := (nI_leI (a := (TKE fby kt ks - ks)) (b := 3) (by omega) (by omega)).mp c_19_2846
      refine lv_iconst (v := 0) hx hb gX10_numberHere_1.2.2.2.1 (by decide) ?_
      refine lv_istore_n (lv' := [(1, .int 0), (0, .ref h0)]) hx hb gX10_numberHere_1.2.2.2.2.1 rfl hl (by decide) rfl (fun ls hl => ?_)
      refine lv_aload_n hx hb gX10_numberHere_1.2.2.2.2.2.1 rfl (lv_at1 hl) ?_
      refine gf_X10_34 hC rfl hK hP 0 rfl rfl gX10_numberHere_1.2.2.2.2.2.2.1 ?_
      refine lv_istore_n (lv' := [(2, .int (nI ks)), (1, .int 0), (0, .ref h0)]) hx hb gX10_numberHere_1.2.2.2.2.2.2.2.1 rfl hl (by decide) rfl (fun ls hl => ?_)
      have hT2 := (CKD.nu hBB).mp c_6_2845
      have keyP : ∀ (nP kP : Nat) (vv : Nat) (ls : Array Slot), kP + nP = (TKE fby kt ks) → (VLF fby ks (kP - ks) = vv) → ((kP = ks ∧ vv = 0) ∨ (kP = ks + 1 ∧ vv ≤ 9) ∨ (kP = ks + 2 ∧ vv ≤ 99) ∨ (kP = ks + 3 ∧ vv ≤ 999)) → lv_has ls 3 [(2, .int (nI kP)), (1, .int (nI vv)), (0, .ref h0)] → W p l e (RM 3 0 0) s m ([.ref h0] : List Value).toArray below meth c s.heap [] 0 0 Q0 (F0 m 31 ls []) := by
        intro nP
        induction nP with
        | zero =>
          intro kP vv ls hkP hvv hvb hl
          obtain rfl : (TKE fby kt ks) = kP := by omega
          have hl : lv_has ls 3 [(2, .int (nI (TKE fby kt ks))), (1, .int (nI vv)), (0, .ref h0)] := hl
          refine lv_iload_n hx hb gX10_numberHere_1.2.2.2.2.2.2.2.2.1 rfl (lv_at0 hl) ?_
          refine lv_aload_n hx hb gX10_numberHere_1.2.2.2.2.2.2.2.2.2 rfl (lv_at2 hl) ?_
          refine gf_X10_37 hC rfl hK hP 0 rfl rfl gX10_numberHere_2.1 ?_
          refine lv_icmp_ge (tgt := 59) hx hb gX10_numberHere_2.2.1 (by decide) (fun _ => ?_) (fun c9 => absurd (Int32.le_refl _) c9)
          refine lv_iload_n hx hb gX10_numberHere_3.2.2.2.2.1 rfl (lv_at1 hl) ?_
          refine toQ hQ0 ?_
          exact RP (v := nI vv) hC (Or.inr ⟨congrArg nI hvv.symm, NMO.y hT2 (by omega), show VLF fby ks (TKE fby kt ks - ks) ≤ 999 from by rw [hvv]; omega⟩) rfl gX10_numberHere_3.2.2.2.2.2
        | succ nP ihP =>
          intro kP vv ls hkP hvv hvb hl
          refine lv_iload_n hx hb gX10_numberHere_1.2.2.2.2.2.2.2.2.1 rfl (lv_at0 hl) ?_
          refine lv_aload_n hx hb gX10_numberHere_1.2.2.2.2.2.2.2.2.2 rfl (lv_at2 hl) ?_
          refine gf_X10_37 hC rfl hK hP 0 rfl rfl gX10_numberHere_2.1 ?_
          refine lv_icmp_ge (tgt := 59) hx hb gX10_numberHere_2.2.1 (by decide) (fun c9 => absurd c9 (nI_ge (a := kP) (b := (TKE fby kt ks)) (by omega) (by omega))) (fun _ => ?_)
          refine lv_iload_n hx hb gX10_numberHere_2.2.2.1 rfl (lv_at1 hl) ?_
          refine lv_bipush (v := 10) hx hb gX10_numberHere_2.2.2.2.1 (by decide) ?_
          refine lv_imul hx hb gX10_numberHere_2.2.2.2.2.1 ?_
          refine eqi (x1 := nI (vv * 10)) (nI_mul vv 10) ?_
          refine lv_aload_n hx hb gX10_numberHere_2.2.2.2.2.2.1 rfl (lv_at2 hl) ?_
          refine lv_iload_n hx hb gX10_numberHere_2.2.2.2.2.2.2.1 rfl (lv_at0 hl) ?_
          refine pV hC hK hl hP hD (t_byteAtI l G h0 kP tby kt tln tsp (CKD fby kt ks) (nI ks) (nI (TKE fby kt ks)) tf9 fby (by omega) (hkt)) si_X10_78 [0, 1] sm_0_1 fm_0_1 nd_0_1 rfl rfl rfl rfl rfl (Nat.le_of_ble_eq_true rfl) rm_3_1_2 ⟨by first | exact Nat.le_of_ble_eq_true rfl | exact Nat.zero_le _, by first | exact Nat.le_of_ble_eq_true rfl | exact Nat.zero_le _⟩ gX10_numberHere_2.2.2.2.2.2.2.2.1 (Keqr ?_)
          obtain ⟨dd, hdd, edd⟩ := DGS.at hks hT2 (k := kP) (by omega) (by omega)
          refine eqi (x1 := nI (48 + dd)) edd ?_
          refine lv_iadd hx hb gX10_numberHere_2.2.2.2.2.2.2.2.2.1 ?_
          refine eqi (x1 := nI (vv * 10 + (48 + dd))) (nI_add (vv * 10) (48 + dd)) ?_
          refine lv_bipush (v := 48) hx hb gX10_numberHere_2.2.2.2.2.2.2.2.2.2 (by decide) ?_
          refine lv_isub hx hb gX10_numberHere_3.1 ?_
          refine eqi (x1 := nI (10 * vv + dd)) ((nI_subT (a := vv * 10 + (48 + dd)) (b := 48) (by omega)).trans (congrArg nI (by omega))) ?_
          refine lv_istore_n (lv' := [(1, .int (nI (10 * vv + dd))), (2, .int (nI kP)), (0, .ref h0)]) hx hb gX10_numberHere_3.2.1 rfl hl (by decide) rfl (fun ls hl => ?_)
          refine lv_iinc (v := nI (kP + 1)) (lv' := [(2, .int (nI (kP + 1))), (1, .int (nI (10 * vv + dd))), (0, .ref h0)]) hx hb gX10_numberHere_3.2.2.1 hl (k := 1) rfl (nI_1 _) (by decide) rfl (fun ls hl => ?_)
          refine lv_goto (tgt := 31) hx hb gX10_numberHere_3.2.2.2.1 (by decide) ?_
          exact ihP (kP + 1) (10 * vv + dd) _ (by omega) (by first | assumption | exact Or.inl rfl | exact Or.inr rfl | omega | exact VLF.zz | exact VLF.nx2 hvv (by omega) hdd edd) (by first | assumption | exact Or.inl rfl | exact Or.inr rfl | omega | exact VLF.zz | exact VLF.nx2 hvv (by omega) hdd edd) (lv_sub hl [0, 1, 2] rfl)
      exact keyP ((TKE fby kt ks) - ks) ks 0 _ (by omega) (by first | assumption | exact Or.inl rfl | exact Or.inr rfl | omega | exact VLF.zz | exact VLF.nx2 hvv (by omega) hdd edd) (by first | assumption | exact Or.inl rfl | exact Or.inr rfl | omega | exact VLF.zz | exact VLF.nx2 hvv (by omega) hdd edd) (lv_sub hl [0, 1, 2] rfl)
    · have nb2848 : ¬ (TKE fby kt ks - ks) ≤ 3 := fun h9 => c_19_2846 ((nI_leI (a := (TKE fby kt ks - ks)) (b := 3) (by omega) (by omega)).mpr h9)
      refine lv_iconst (v := (-1)) hx hb gX10_numberHere_1.2.1 (by decide) ?_
      refine toQ hQ0 ?_
      exact RP (v := (-1)) hC (Or.inl ⟨rfl, NMO.n (fun h9 => absurd h9.2 (by omega))⟩) rfl gX10_numberHere_1.2.2.1
def K_t_takesNumber (l : Launch) (G : GG) (h0 : Nat) (kl : Nat) (jc : Nat) (mq : Nat) (tby : Nat) (kt : Nat) (tln : Nat) (tsp : Nat) (ks : Nat) (tf9 : Int32) (fby : Nat → Int32) (tlnc : Nat) (kln : Nat) (ftln : Nat → Int32) : Prop := MI l G yX10_takesNumber cX10_takesNumber 5 (some .boolean) 4 0 0 [.ref h0, .int (nI kl), .int (nI jc), .int (nI mq)] [(h0, oX10 tby (nI kt) tln tsp (CKD fby kt ks) (nI ks) (nI (TKE fby kt ks)) tf9), (tby, iA G 240 fby), (tln, oX8 9 7 tlnc (nI kln)), (tlnc, iA G 63 ftln)] (fun (r : Int32) (u : Nat × Int32 × (Nat → Int32)) => ((r = 1 ∧ NML fby kt mq ks = some (NVL fby kt ks) ∧ NXT fby kt ks = u.1 ∧ tf9 = u.2.1 ∧ upd ftln (kl * 7 + jc) (nI (NVL fby kt ks)) = u.2.2) ∨ (r = 0 ∧ NML fby kt mq ks = none ∧ ks = u.1 ∧ nI ks = u.2.1 ∧ ftln = u.2.2))) (fun u : Nat × Int32 × (Nat → Int32) => [(h0, oX10 tby (nI kt) tln tsp (CKD fby kt u.1) (nI u.1) (nI (TKE fby kt u.1)) u.2.1), (tby, iA G 240 fby), (tln, oX8 9 7 tlnc (nI kln)), (tlnc, iA G 63 u.2.2)])
set_option maxHeartbeats 4000000 in
set_option maxRecDepth 100000 in
theorem t_takesNumber (l : Launch) (G : GG) (h0 : Nat) (kl : Nat) (jc : Nat) (mq : Nat) (tby : Nat) (kt : Nat) (tln : Nat) (tsp : Nat) (ks : Nat) (tf9 : Int32) (fby : Nat → Int32) (tlnc : Nat) (kln : Nat) (ftln : Nat → Int32) (hkt : kt ≤ 240) (hks : ks ≤ kt) (hBB : BNN fby kt) (hkl : kl < kln) (hkln : kln ≤ 9) (hjc : jc < 7) (hmq : mq ≤ 999) : K_t_takesNumber l G h0 kl jc mq tby kt tln tsp ks tf9 fby tlnc kln ftln := by
  refine MI.start (by decide +kernel) (Nat.le_of_ble_eq_true rfl) ?_
  intro p e s m below meth c A ls hC hK hP hD hS hA hl
  refine absQ (fun Q0 hQ0 => ?_)
  have hl : lv_has ls 5 [(0, .ref h0), (1, .int (nI kl)), (2, .int (nI jc)), (3, .int (nI mq))] := hl
  refine Kan8 hC (fun hx hb hr hml hB hown hlocks hnm => ?_)
  have tk0 := TKE.ge (bt := fby) (n := kt) (s := ks) hks
  refine lv_aload_n hx hb gX10_takesNumber_0.1 rfl (lv_at0 hl) ?_
  refine pV hC hK hl hP hD (t_numberHere l G h0 tby kt tln tsp ks tf9 fby (hkt) (hks) (hBB)) si_X10_109 [0, 1] sm_0_1 fm_0_1 nd_0_1 rfl rfl rfl rfl rfl (Nat.le_of_ble_eq_true rfl) rm_4_3_3 ⟨by first | exact Nat.le_of_ble_eq_true rfl | exact Nat.zero_le _, by first | exact Nat.le_of_ble_eq_true rfl | exact Nat.zero_le _⟩ gX10_takesNumber_0.2.1 (Kors (Keqa fun a2852 => ?_) (Keqa fun a2852 => ?_))
  · have hq2853 := a2852
    refine lv_istore (lv' := [(4, .int (-1)), (0, .ref h0), (1, .int (nI kl)), (2, .int (nI jc)), (3, .int (nI mq))]) hx hb gX10_takesNumber_0.2.2.1 hl (by decide) rfl (fun ls hl => ?_)
    refine lv_iload hx hb gX10_takesNumber_0.2.2.2.1 (lv_at0 hl) ?_
    refine lv_iconst (v := 0) hx hb gX10_takesNumber_0.2.2.2.2.1 (by decide) ?_
    refine lv_iload_n hx hb gX10_takesNumber_0.2.2.2.2.2.1 rfl (lv_at4 hl) ?_
    refine pSN hC hK hl (c_within l G (-1) 0 (nI mq)) si_X10_89 rfl rfl (Nat.le_of_ble_eq_true rfl) rm_4_1_3 ⟨by first | exact Nat.le_of_ble_eq_true rfl | exact Nat.zero_le _, by first | exact Nat.le_of_ble_eq_true rfl | exact Nat.zero_le _⟩ gX10_takesNumber_0.2.2.2.2.2.2.1 (Kors (Keqa fun a2855 => ?_) (Keqa fun a2855 => ?_))
    · exact absurd a2855 (fun h9 => h9.1 (by decide))
    · refine lv_if_ne (tgt := 21) hx hb gX10_takesNumber_0.2.2.2.2.2.2.2.1 (by decide) (fun c9 => absurd (by decide) c9) (fun _ => ?_)
      refine lv_aload_n hx hb gX10_takesNumber_0.2.2.2.2.2.2.2.2.1 rfl (lv_at1 hl) ?_
      refine iV (wr := [(tby, iA G 240 fby), (tln, oX8 9 7 tlnc (nI kln)), (tlnc, iA G 63 ftln)]) hC hK hl hP hD hS hA (t_refuseX l G h0 tby kt tln tsp (CKD fby kt ks) ks (TKE fby kt ks) tf9) si_X10_106 [0] [1, 2, 3] sm_0 fm_0 nd_0 sm_1_2_3 nd_1_2_3 dj_0__1_2_3 rfl rfl rfl rfl rfl (Nat.le_of_ble_eq_true rfl) rm_4_1_1 ⟨Nat.le_of_ble_eq_true rfl, Nat.le_of_ble_eq_true rfl⟩ gX10_takesNumber_0.2.2.2.2.2.2.2.2.2 (fun r2856 u2857 H locs hr2856 hP hD hS => ?_)
      refine Kpdr (ws := [(tby, iA G 240 fby), (tln, oX8 9 7 tlnc (nI kln)), (tlnc, iA G 63 ftln), (h0, oX10 tby (nI kt) tln tsp (CKD fby kt ks) (nI ks) (nI (TKE fby kt ks)) (nI ks))]) hP hD (fun hP hD => ?_)
      obtain rfl := hr2856
      refine toQ hQ0 ?_
      exact RI (v := 0) hC hP hD hS [3, 0, 1, 2] (ks, nI ks, ftln) rfl rfl (by decide) (Or.inr ⟨rfl, NML.n hq2853, rfl, rfl, rfl⟩) (by decide +kernel) gX10_takesNumber_1.1
  · obtain ⟨hq2859, hq2860⟩ := a2852
    have xl2861 := NMO.len hq2859 (by omega)
    refine lv_istore (lv' := [(4, .int (nI (NVL fby kt ks))), (0, .ref h0), (1, .int (nI kl)), (2, .int (nI jc)), (3, .int (nI mq))]) hx hb gX10_takesNumber_0.2.2.1 hl (by decide) rfl (fun ls hl => ?_)
    refine lv_iload hx hb gX10_takesNumber_0.2.2.2.1 (lv_at0 hl) ?_
    refine lv_iconst (v := 0) hx hb gX10_takesNumber_0.2.2.2.2.1 (by decide) ?_
    refine lv_iload_n hx hb gX10_takesNumber_0.2.2.2.2.2.1 rfl (lv_at4 hl) ?_
    refine pSN hC hK hl (c_within l G (nI (NVL fby kt ks)) 0 (nI mq)) si_X10_89 rfl rfl (Nat.le_of_ble_eq_true rfl) rm_4_1_3 ⟨by first | exact Nat.le_of_ble_eq_true rfl | exact Nat.zero_le _, by first | exact Nat.le_of_ble_eq_true rfl | exact Nat.zero_le _⟩ gX10_takesNumber_0.2.2.2.2.2.2.1 (Kors (Keqa fun a2863 => ?_) (Keqa fun a2863 => ?_))
    · have hle9 : NVL fby kt ks ≤ mq := nleT (a := mq) (b := NVL fby kt ks) (by omega) (by omega) a2863.2
      refine lv_if_ne (tgt := 21) hx hb gX10_takesNumber_0.2.2.2.2.2.2.2.1 (by decide) (fun _ => ?_) (fun c9 => absurd c9 (by decide))
      refine lv_aload_n hx hb gX10_takesNumber_1.2.1 rfl (lv_at1 hl) ?_
      refine gf_X10_20 hC rfl hK hP 0 rfl rfl gX10_takesNumber_1.2.2.1 ?_
      refine lv_iload_n hx hb gX10_takesNumber_1.2.2.2.1 rfl (lv_at2 hl) ?_
      refine lv_iload_n hx hb gX10_takesNumber_1.2.2.2.2.1 rfl (lv_at3 hl) ?_
      refine lv_iload hx hb gX10_takesNumber_1.2.2.2.2.2.1 (lv_at0 hl) ?_
      refine vV (wr := [(h0, oX10 tby (nI kt) tln tsp (CKD fby kt ks) (nI ks) (nI (TKE fby kt ks)) tf9), (tby, iA G 240 fby)]) hC hK hl hP hD hS hA (c_T_set l G tln (nI kl) (nI jc) (nI (NVL fby kt ks)) 9 7 tlnc kln ftln (hkln) (by omega) (by omega)) si_X10_66 [2, 3] [0, 1] sm_2_3 fm_2_3 nd_2_3 sm_0_1 nd_0_1 dj_2_3__0_1 rfl rfl rfl rfl rfl (Nat.le_of_ble_eq_true rfl) rm_4_1_4 ⟨Nat.le_of_ble_eq_true rfl, Nat.le_of_ble_eq_true rfl⟩ gX10_takesNumber_1.2.2.2.2.2.2.1 (fun f12866 H locs hr2864 hP hD hS => ?_)
      try dsimp only at hr2864
      refine Kpdr (ws := [(h0, oX10 tby (nI kt) tln tsp (CKD fby kt ks) (nI ks) (nI (TKE fby kt ks)) tf9), (tby, iA G 240 fby), (tln, oX8 9 7 tlnc (nI kln)), (tlnc, iA G 63 f12866)]) hP hD (fun hP hD => ?_)
      have w2867 := hr2864
      obtain rfl : upd ftln (kl * 7 + jc) (nI (NVL fby kt ks)) = f12866 := ((tsj (j := kl) (c := jc) (by omega) (by omega) (by omega) (by decide) rfl).symm.trans w2867)
      refine Kpdr (ws := [(h0, oX10 tby (nI kt) tln tsp (CKD fby kt ks) (nI ks) (nI (TKE fby kt ks)) tf9), (tby, iA G 240 fby), (tln, oX8 9 7 tlnc (nI kln)), (tlnc, iA G 63 (upd ftln (kl * 7 + jc) (nI (NVL fby kt ks))))]) hP hD (fun hP hD => ?_)
      refine lv_aload_n hx hb gX10_takesNumber_1.2.2.2.2.2.2.2.1 rfl (lv_at1 hl) ?_
      refine vV (wr := [(tln, oX8 9 7 tlnc (nI kln)), (tlnc, iA G 63 (upd ftln (kl * 7 + jc) (nI (NVL fby kt ks))))]) hC hK hl hP hD hS hA (t_advT l G h0 tby kt tln tsp ks tf9 fby (hkt) (hks) (hBB)) si_X10_47 [0, 1] [2, 3] sm_0_1 fm_0_1 nd_0_1 sm_2_3 nd_2_3 dj_0_1__2_3 rfl rfl rfl rfl rfl (Nat.le_of_ble_eq_true rfl) rm_4_3_1 ⟨Nat.le_of_ble_eq_true rfl, Nat.le_of_ble_eq_true rfl⟩ gX10_takesNumber_1.2.2.2.2.2.2.2.2.1 (fun u2869 H locs hr2868 hP hD hS => ?_)
      refine Kpdr (ws := [(tln, oX8 9 7 tlnc (nI kln)), (tlnc, iA G 63 (upd ftln (kl * 7 + jc) (nI (NVL fby kt ks)))), (h0, oX10 tby (nI kt) tln tsp (CKD fby kt (NXT fby kt ks)) (nI (NXT fby kt ks)) (nI (TKE fby kt (NXT fby kt ks))) tf9), (tby, iA G 240 fby)]) hP hD (fun hP hD => ?_)
      have xn2870 := NXT.ge (bt := fby) (n := kt) (s := ks) (by omega)
      refine lv_iconst (v := 1) hx hb gX10_takesNumber_1.2.2.2.2.2.2.2.2.2 (by decide) ?_
      refine toQ hQ0 ?_
      exact RI (v := 1) hC hP hD hS [2, 3, 0, 1] ((NXT fby kt ks), tf9, upd ftln (kl * 7 + jc) (nI (NVL fby kt ks))) rfl rfl (by decide) (Or.inl ⟨rfl, NML.y hq2859 hle9, rfl, rfl, rfl⟩) (by decide +kernel) gX10_takesNumber_2
    · have hgt9 : ¬ NVL fby kt ks ≤ mq := fun h9 => a2863 ⟨nI_pos (by omega), fun h8 => absurd ((nI_ltI (a := mq) (b := NVL fby kt ks) (by omega) (by omega)).mp h8) (by omega)⟩
      refine lv_if_ne (tgt := 21) hx hb gX10_takesNumber_0.2.2.2.2.2.2.2.1 (by decide) (fun c9 => absurd (by decide) c9) (fun _ => ?_)
      refine lv_aload_n hx hb gX10_takesNumber_0.2.2.2.2.2.2.2.2.1 rfl (lv_at1 hl) ?_
      refine iV (wr := [(tby, iA G 240 fby), (tln, oX8 9 7 tlnc (nI kln)), (tlnc, iA G 63 ftln)]) hC hK hl hP hD hS hA (t_refuseX l G h0 tby kt tln tsp (CKD fby kt ks) ks (TKE fby kt ks) tf9) si_X10_106 [0] [1, 2, 3] sm_0 fm_0 nd_0 sm_1_2_3 nd_1_2_3 dj_0__1_2_3 rfl rfl rfl rfl rfl (Nat.le_of_ble_eq_true rfl) rm_4_1_1 ⟨Nat.le_of_ble_eq_true rfl, Nat.le_of_ble_eq_true rfl⟩ gX10_takesNumber_0.2.2.2.2.2.2.2.2.2 (fun r2871 u2872 H locs hr2871 hP hD hS => ?_)
      refine Kpdr (ws := [(tby, iA G 240 fby), (tln, oX8 9 7 tlnc (nI kln)), (tlnc, iA G 63 ftln), (h0, oX10 tby (nI kt) tln tsp (CKD fby kt ks) (nI ks) (nI (TKE fby kt ks)) (nI ks))]) hP hD (fun hP hD => ?_)
      obtain rfl := hr2871
      refine toQ hQ0 ?_
      exact RI (v := 0) hC hP hD hS [3, 0, 1, 2] (ks, nI ks, ftln) rfl rfl (by decide) (Or.inr ⟨rfl, NML.b hq2859 hgt9, rfl, rfl, rfl⟩) (by decide +kernel) gX10_takesNumber_1.1
def K_t_addStep (l : Launch) (G : GG) (h0 : Nat) (sp : Int32) (tby : Nat) (kt : Nat) (tln : Nat) (tsp : Nat) (tkd : Int32) (ks : Nat) (kn : Nat) (tf9 : Int32) (tspc : Nat) (ksp : Nat) (ftsp : Nat → Int32) : Prop := MV l G yX10_addStep cX10_addStep 2 2 0 0 [.ref h0, .int sp] [(h0, oX10 tby (nI kt) tln tsp tkd (nI ks) (nI kn) tf9), (tsp, oX8 120 1 tspc (nI ksp)), (tspc, iA G 120 ftsp)] (fun u : Unit => True) (fun u : Unit => [(h0, oX10 tby (nI kt) tln tsp tkd (nI ks) (nI kn) tf9), (tsp, oX8 120 1 tspc (nI (ksp + 1))), (tspc, iA G 120 (upd ftsp ksp sp))])
set_option maxHeartbeats 4000000 in
set_option maxRecDepth 100000 in
theorem t_addStep (l : Launch) (G : GG) (h0 : Nat) (sp : Int32) (tby : Nat) (kt : Nat) (tln : Nat) (tsp : Nat) (tkd : Int32) (ks : Nat) (kn : Nat) (tf9 : Int32) (tspc : Nat) (ksp : Nat) (ftsp : Nat → Int32) (hksp : ksp < 120) : K_t_addStep l G h0 sp tby kt tln tsp tkd ks kn tf9 tspc ksp ftsp := by
  refine MV.start (by decide +kernel) (Nat.le_of_ble_eq_true rfl) ?_
  intro p e s m below meth c A ls hC hK hP hD hS hA hl
  refine absQ (fun Q0 hQ0 => ?_)
  have hl : lv_has ls 2 [(0, .ref h0), (1, .int sp)] := hl
  refine Kan8 hC (fun hx hb hr hml hB hown hlocks hnm => ?_)
  refine lv_aload_n hx hb gX10_addStep_0.1 rfl (lv_at0 hl) ?_
  refine gf_X10_24 hC rfl hK hP 0 rfl rfl gX10_addStep_0.2.1 ?_
  refine lv_aload_n hx hb gX10_addStep_0.2.2.1 rfl (lv_at0 hl) ?_
  refine gf_X10_24 hC rfl hK hP 0 rfl rfl gX10_addStep_0.2.2.2.1 ?_
  refine iV (wr := [(h0, oX10 tby (nI kt) tln tsp tkd (nI ks) (nI kn) tf9), (tspc, iA G 120 ftsp)]) hC hK hl hP hD hS hA (c_T_append l G tsp 120 1 tspc ksp (hksp) (by omega)) si_X10_59 [1] [0, 2] sm_1 fm_1 nd_1 sm_0_2 nd_0_2 dj_1__0_2 rfl rfl rfl rfl rfl (Nat.le_of_ble_eq_true rfl) rm_2_1_1 ⟨Nat.le_of_ble_eq_true rfl, Nat.le_of_ble_eq_true rfl⟩ gX10_addStep_0.2.2.2.2.1 (fun r2874 u2875 H locs hr2874 hP hD hS => ?_)
  refine Kpdr (ws := [(h0, oX10 tby (nI kt) tln tsp tkd (nI ks) (nI kn) tf9), (tspc, iA G 120 ftsp), (tsp, oX8 120 1 tspc (nI (ksp + 1)))]) hP hD (fun hP hD => ?_)
  obtain rfl := hr2874
  refine lv_iconst (v := 0) hx hb gX10_addStep_0.2.2.2.2.2.1 (by decide) ?_
  refine lv_iload_n hx hb gX10_addStep_0.2.2.2.2.2.2.1 rfl (lv_at1 hl) ?_
  refine vV (wr := [(h0, oX10 tby (nI kt) tln tsp tkd (nI ks) (nI kn) tf9)]) hC hK hl hP hD hS hA (c_T_set l G tsp (nI ksp) 0 sp 120 1 tspc (ksp + 1) ftsp (by omega) (by omega) (by omega)) si_X10_66 [2, 1] [0] sm_2_1 fm_2_1 nd_2_1 sm_0 nd_0 dj_2_1__0 rfl rfl rfl rfl rfl (Nat.le_of_ble_eq_true rfl) rm_2_1_4 ⟨Nat.le_of_ble_eq_true rfl, Nat.le_of_ble_eq_true rfl⟩ gX10_addStep_0.2.2.2.2.2.2.2.1 (fun f12879 H locs hr2877 hP hD hS => ?_)
  try dsimp only at hr2877
  refine Kpdr (ws := [(h0, oX10 tby (nI kt) tln tsp tkd (nI ks) (nI kn) tf9), (tsp, oX8 120 1 tspc (nI (ksp + 1))), (tspc, iA G 120 f12879)]) hP hD (fun hP hD => ?_)
  have w2880 := hr2877
  obtain rfl : upd ftsp ksp sp = f12879 := (congrArg (fun z9 => upd ftsp z9 sp) (show ksp = ksp * 1 + 0 by omega)).trans ((tsj (j := ksp) (c := 0) (by omega) (by omega) (by omega) (by decide) rfl).symm.trans w2880)
  refine Kpdr (ws := [(h0, oX10 tby (nI kt) tln tsp tkd (nI ks) (nI kn) tf9), (tsp, oX8 120 1 tspc (nI (ksp + 1))), (tspc, iA G 120 (upd ftsp ksp sp))]) hP hD (fun hP hD => ?_)
  refine toQ hQ0 ?_
  exact RV hC hP hD hS [0, 1, 2] () rfl rfl (by decide) (trivial) gX10_addStep_0.2.2.2.2.2.2.2.2
def K_t_factHere (l : Launch) (G : GG) (K : OO) (h0 : Nat) (tby : Nat) (kt : Nat) (tln : Nat) (tsp : Nat) (ks : Nat) (tf9 : Int32) (fby : Nat → Int32) : Prop := MPo l G K yX10_factHere cX10_factHere 1 (some .int) 7 [.ref h0] [(h0, oX10 tby (nI kt) tln tsp (CKD fby kt ks) (nI ks) (nI (TKE fby kt ks)) tf9), (tby, iA G 240 fby)] (fun r : Int32 => (r = (-1) ∧ FAC fby kt ks = none) ∨ (r = nI (FAV fby kt ks) ∧ FAC fby kt ks = some (FAV fby kt ks) ∧ FAV fby kt ks < 5))
set_option maxHeartbeats 4000000 in
set_option maxRecDepth 100000 in
theorem t_factHere (l : Launch) (G : GG) (K : OO) (h0 : Nat) (tby : Nat) (kt : Nat) (tln : Nat) (tsp : Nat) (ks : Nat) (tf9 : Int32) (fby : Nat → Int32) (hkt : kt ≤ 240) (hks : ks ≤ kt) (hBB : BNN fby kt) : K_t_factHere l G K h0 tby kt tln tsp ks tf9 fby := by
  refine MPo.start (by decide +kernel) (Nat.le_of_ble_eq_true rfl) ?_
  intro p e s m below meth c ls hC hK hP hD hl hO hS
  refine absQ (fun Q0 hQ0 => ?_)
  have hl : lv_has ls 1 [(0, .ref h0)] := hl
  refine Kan8 hC (fun hx hb hr hml hB hown hlocks hnm => ?_)
  refine lv_aload_n hx hb gX10_factHere_0.1 rfl (lv_at0 hl) ?_
  refine va_ldcS (index := 171) (tx := "person") hx hb hown (hO.2.1 11 (by decide)) gX10_factHere_0.2.1 ?_
  refine pVo hO hS hC hK hl hP hD (t_isName l G K 11 h0 tby kt tln tsp ks tf9 fby (hkt) (hks) (hBB) ((by decide))) si_X10_102 [0, 1] sm_0_1 fm_0_1 nd_0_1 rfl rfl rfl rfl rfl (Nat.le_of_ble_eq_true rfl) rm_7_6_3 ⟨by first | exact Nat.le_of_ble_eq_true rfl | exact Nat.zero_le _, by first | exact Nat.le_of_ble_eq_true rfl | exact Nat.zero_le _⟩ gX10_factHere_0.2.2.1 (Kors (Keqa fun a2882 => ?_) (Keqa fun a2882 => ?_))
  · have hq2883 := a2882
    have xl2884 : ks + 6 ≤ NXT fby kt ks ∧ NXT fby kt ks ≤ kt := WRD.len hq2883 (by omega)
    refine lv_if_eq (tgt := 11) hx hb gX10_factHere_0.2.2.2.1 (by decide) (fun c9 => absurd c9 (by decide)) (fun _ => ?_)
    refine lv_iconst (v := 0) hx hb gX10_factHere_0.2.2.2.2.1 (by decide) ?_
    refine toQ hQ0 ?_
    exact RP (v := 0) hC (Or.inr (FAV.y (k := 0) (by decide) hq2883)) rfl gX10_factHere_0.2.2.2.2.2.1
  · have hq2885 := a2882
    refine lv_if_eq (tgt := 11) hx hb gX10_factHere_0.2.2.2.1 (by decide) (fun _ => ?_) (fun c9 => absurd (by decide) c9)
    refine lv_aload_n hx hb gX10_factHere_0.2.2.2.2.2.2.1 rfl (lv_at0 hl) ?_
    refine va_ldcS (index := 173) (tx := "post") hx hb hown (hO.2.1 12 (by decide)) gX10_factHere_0.2.2.2.2.2.2.2.1 ?_
    refine pVo hO hS hC hK hl hP hD (t_isName l G K 12 h0 tby kt tln tsp ks tf9 fby (hkt) (hks) (hBB) ((by decide))) si_X10_102 [0, 1] sm_0_1 fm_0_1 nd_0_1 rfl rfl rfl rfl rfl (Nat.le_of_ble_eq_true rfl) rm_7_6_3 ⟨by first | exact Nat.le_of_ble_eq_true rfl | exact Nat.zero_le _, by first | exact Nat.le_of_ble_eq_true rfl | exact Nat.zero_le _⟩ gX10_factHere_0.2.2.2.2.2.2.2.2.1 (Kors (Keqa fun a2887 => ?_) (Keqa fun a2887 => ?_))
    · have hq2888 := a2887
      have xl2889 : ks + 4 ≤ NXT fby kt ks ∧ NXT fby kt ks ≤ kt := WRD.len hq2888 (by omega)
      refine lv_if_eq (tgt := 22) hx hb gX10_factHere_0.2.2.2.2.2.2.2.2.2 (by decide) (fun c9 => absurd c9 (by decide)) (fun _ => ?_)
      refine lv_iconst (v := 1) hx hb gX10_factHere_1.1 (by decide) ?_
      refine toQ hQ0 ?_
      exact RP (v := 1) hC (Or.inr (FAV.y (k := 1) (by decide) hq2888)) rfl gX10_factHere_1.2.1
    · have hq2890 := a2887
      refine lv_if_eq (tgt := 22) hx hb gX10_factHere_0.2.2.2.2.2.2.2.2.2 (by decide) (fun _ => ?_) (fun c9 => absurd (by decide) c9)
      refine lv_aload_n hx hb gX10_factHere_1.2.2.1 rfl (lv_at0 hl) ?_
      refine va_ldcS (index := 175) (tx := "had") hx hb hown (hO.2.1 13 (by decide)) gX10_factHere_1.2.2.2.1 ?_
      refine pVo hO hS hC hK hl hP hD (t_isName l G K 13 h0 tby kt tln tsp ks tf9 fby (hkt) (hks) (hBB) ((by decide))) si_X10_102 [0, 1] sm_0_1 fm_0_1 nd_0_1 rfl rfl rfl rfl rfl (Nat.le_of_ble_eq_true rfl) rm_7_6_3 ⟨by first | exact Nat.le_of_ble_eq_true rfl | exact Nat.zero_le _, by first | exact Nat.le_of_ble_eq_true rfl | exact Nat.zero_le _⟩ gX10_factHere_1.2.2.2.2.1 (Kors (Keqa fun a2892 => ?_) (Keqa fun a2892 => ?_))
      · have hq2893 := a2892
        have xl2894 : ks + 3 ≤ NXT fby kt ks ∧ NXT fby kt ks ≤ kt := WRD.len hq2893 (by omega)
        refine lv_if_eq (tgt := 33) hx hb gX10_factHere_1.2.2.2.2.2.1 (by decide) (fun c9 => absurd c9 (by decide)) (fun _ => ?_)
        refine lv_iconst (v := 2) hx hb gX10_factHere_1.2.2.2.2.2.2.1 (by decide) ?_
        refine toQ hQ0 ?_
        exact RP (v := 2) hC (Or.inr (FAV.y (k := 2) (by decide) hq2893)) rfl gX10_factHere_1.2.2.2.2.2.2.2.1
      · have hq2895 := a2892
        refine lv_if_eq (tgt := 33) hx hb gX10_factHere_1.2.2.2.2.2.1 (by decide) (fun _ => ?_) (fun c9 => absurd (by decide) c9)
        refine lv_aload_n hx hb gX10_factHere_1.2.2.2.2.2.2.2.2.1 rfl (lv_at0 hl) ?_
        refine va_ldcS (index := 177) (tx := "made") hx hb hown (hO.2.1 14 (by decide)) gX10_factHere_1.2.2.2.2.2.2.2.2.2 ?_
        refine pVo hO hS hC hK hl hP hD (t_isName l G K 14 h0 tby kt tln tsp ks tf9 fby (hkt) (hks) (hBB) ((by decide))) si_X10_102 [0, 1] sm_0_1 fm_0_1 nd_0_1 rfl rfl rfl rfl rfl (Nat.le_of_ble_eq_true rfl) rm_7_6_3 ⟨by first | exact Nat.le_of_ble_eq_true rfl | exact Nat.zero_le _, by first | exact Nat.le_of_ble_eq_true rfl | exact Nat.zero_le _⟩ gX10_factHere_2.1 (Kors (Keqa fun a2897 => ?_) (Keqa fun a2897 => ?_))
        · have hq2898 := a2897
          have xl2899 : ks + 4 ≤ NXT fby kt ks ∧ NXT fby kt ks ≤ kt := WRD.len hq2898 (by omega)
          refine lv_if_eq (tgt := 44) hx hb gX10_factHere_2.2.1 (by decide) (fun c9 => absurd c9 (by decide)) (fun _ => ?_)
          refine lv_iconst (v := 3) hx hb gX10_factHere_2.2.2.1 (by decide) ?_
          refine toQ hQ0 ?_
          exact RP (v := 3) hC (Or.inr (FAV.y (k := 3) (by decide) hq2898)) rfl gX10_factHere_2.2.2.2.1
        · have hq2900 := a2897
          refine lv_if_eq (tgt := 44) hx hb gX10_factHere_2.2.1 (by decide) (fun _ => ?_) (fun c9 => absurd (by decide) c9)
          refine lv_aload_n hx hb gX10_factHere_2.2.2.2.2.1 rfl (lv_at0 hl) ?_
          refine va_ldcS (index := 179) (tx := "slow") hx hb hown (hO.2.1 15 (by decide)) gX10_factHere_2.2.2.2.2.2.1 ?_
          refine pVo hO hS hC hK hl hP hD (t_isName l G K 15 h0 tby kt tln tsp ks tf9 fby (hkt) (hks) (hBB) ((by decide))) si_X10_102 [0, 1] sm_0_1 fm_0_1 nd_0_1 rfl rfl rfl rfl rfl (Nat.le_of_ble_eq_true rfl) rm_7_6_3 ⟨by first | exact Nat.le_of_ble_eq_true rfl | exact Nat.zero_le _, by first | exact Nat.le_of_ble_eq_true rfl | exact Nat.zero_le _⟩ gX10_factHere_2.2.2.2.2.2.2.1 (Kors (Keqa fun a2902 => ?_) (Keqa fun a2902 => ?_))
          · have hq2903 := a2902
            have xl2904 : ks + 4 ≤ NXT fby kt ks ∧ NXT fby kt ks ≤ kt := WRD.len hq2903 (by omega)
            refine lv_if_eq (tgt := 57) hx hb gX10_factHere_2.2.2.2.2.2.2.2.1 (by decide) (fun c9 => absurd c9 (by decide)) (fun _ => ?_)
            refine lv_iconst (v := 4) hx hb gX10_factHere_2.2.2.2.2.2.2.2.2.1 (by decide) ?_
            refine lv_goto (tgt := 58) hx hb gX10_factHere_2.2.2.2.2.2.2.2.2.2 (by decide) ?_
            refine toQ hQ0 ?_
            exact RP (v := 4) hC (Or.inr (FAV.y (k := 4) (by decide) hq2903)) rfl gX10_factHere_3.2
          · have hq2905 := a2902
            refine lv_if_eq (tgt := 57) hx hb gX10_factHere_2.2.2.2.2.2.2.2.1 (by decide) (fun _ => ?_) (fun c9 => absurd (by decide) c9)
            refine lv_iconst (v := (-1)) hx hb gX10_factHere_3.1 (by decide) ?_
            refine toQ hQ0 ?_
            exact RP (v := (-1)) hC (Or.inl ⟨rfl, FAC.n5 hq2885 hq2890 hq2895 hq2900 hq2905⟩) rfl gX10_factHere_3.2
def K_t_signHere (l : Launch) (G : GG) (fby : Nat → Int32) (h0 : Nat) (tby : Nat) (kt : Nat) (tln : Nat) (tsp : Nat) (ks : Nat) (tf9 : Int32) : Prop := MP l G yX10_signHere cX10_signHere 1 (some .int) 1 [.ref h0] [(h0, oX10 tby (nI kt) tln tsp (CKD fby kt ks) (nI ks) (nI (TKE fby kt ks)) tf9)] (fun r : Int32 => (r = (-1) ∧ SIG fby kt ks = none) ∨ (r = nI (SIV fby kt ks) ∧ SIG fby kt ks = some (SIV fby kt ks) ∧ SIV fby kt ks < 3))
set_option maxHeartbeats 4000000 in
set_option maxRecDepth 100000 in
theorem t_signHere (l : Launch) (G : GG) (fby : Nat → Int32) (h0 : Nat) (tby : Nat) (kt : Nat) (tln : Nat) (tsp : Nat) (ks : Nat) (tf9 : Int32) (hBB : BNN fby kt) : K_t_signHere l G fby h0 tby kt tln tsp ks tf9 := by
  refine MP.start (by decide +kernel) (Nat.le_of_ble_eq_true rfl) ?_
  intro p e s m below meth c ls hC hK hP hD hl
  refine absQ (fun Q0 hQ0 => ?_)
  have hl : lv_has ls 1 [(0, .ref h0)] := hl
  refine Kan8 hC (fun hx hb hr hml hB hown hlocks hnm => ?_)
  refine lv_aload_n hx hb gX10_signHere_0.1 rfl (lv_at0 hl) ?_
  refine gf_X10_31 hC rfl hK hP 0 rfl rfl gX10_signHere_0.2.1 ?_
  refine lv_bipush (v := 60) hx hb gX10_signHere_0.2.2.1 (by decide) ?_
  refine lv_icmp_ne (tgt := 11) hx hb gX10_signHere_0.2.2.2.1 (by decide) (fun c_6_2906 => ?_) (fun c_6_2906 => ?_)
  · refine lv_aload_n hx hb gX10_signHere_0.2.2.2.2.2.2.1 rfl (lv_at0 hl) ?_
    refine gf_X10_31 hC rfl hK hP 0 rfl rfl gX10_signHere_0.2.2.2.2.2.2.2.1 ?_
    refine lv_bipush (v := 61) hx hb gX10_signHere_0.2.2.2.2.2.2.2.2.1 (by decide) ?_
    refine lv_icmp_ne (tgt := 22) hx hb gX10_signHere_0.2.2.2.2.2.2.2.2.2 (by decide) (fun c_17_2907 => ?_) (fun c_17_2907 => ?_)
    · refine lv_aload_n hx hb gX10_signHere_1.2.2.1 rfl (lv_at0 hl) ?_
      refine gf_X10_31 hC rfl hK hP 0 rfl rfl gX10_signHere_1.2.2.2.1 ?_
      refine lv_bipush (v := 62) hx hb gX10_signHere_1.2.2.2.2.1 (by decide) ?_
      refine lv_icmp_ne (tgt := 35) hx hb gX10_signHere_1.2.2.2.2.2.1 (by decide) (fun c_28_2908 => ?_) (fun c_28_2908 => ?_)
      · refine lv_iconst (v := (-1)) hx hb gX10_signHere_1.2.2.2.2.2.2.2.2.1 (by decide) ?_
        refine toQ hQ0 ?_
        exact RP (v := (-1)) hC (Or.inl ⟨rfl, SIG.n (fun h9 => c_6_2906 ((CKD.sg hBB (by decide)).mpr h9)) (fun h9 => c_17_2907 ((CKD.sg hBB (by decide)).mpr h9)) (fun h9 => c_28_2908 ((CKD.sg hBB (by decide)).mpr h9))⟩) rfl gX10_signHere_1.2.2.2.2.2.2.2.2.2
      · refine lv_iconst (v := 2) hx hb gX10_signHere_1.2.2.2.2.2.2.1 (by decide) ?_
        refine lv_goto (tgt := 36) hx hb gX10_signHere_1.2.2.2.2.2.2.2.1 (by decide) ?_
        refine toQ hQ0 ?_
        exact RP (v := 2) hC (Or.inr (SIV.y (k := 2) (by decide) (SIG.e2 (fun h9 => c_6_2906 ((CKD.sg hBB (by decide)).mpr h9)) (fun h9 => c_17_2907 ((CKD.sg hBB (by decide)).mpr h9)) ((CKD.sg hBB (by decide)).mp c_28_2908)))) rfl gX10_signHere_1.2.2.2.2.2.2.2.2.2
    · refine lv_iconst (v := 1) hx hb gX10_signHere_1.1 (by decide) ?_
      refine toQ hQ0 ?_
      exact RP (v := 1) hC (Or.inr (SIV.y (k := 1) (by decide) (SIG.e1 (fun h9 => c_6_2906 ((CKD.sg hBB (by decide)).mpr h9)) ((CKD.sg hBB (by decide)).mp c_17_2907)))) rfl gX10_signHere_1.2.1
  · refine lv_iconst (v := 0) hx hb gX10_signHere_0.2.2.2.2.1 (by decide) ?_
    refine toQ hQ0 ?_
    exact RP (v := 0) hC (Or.inr (SIV.y (k := 0) (by decide) (SIG.e0 ((CKD.sg hBB (by decide)).mp c_6_2906)))) rfl gX10_signHere_0.2.2.2.2.2.1
def K_t_takesComparison (l : Launch) (G : GG) (K : OO) (h0 : Nat) (tby : Nat) (kt : Nat) (tln : Nat) (tsp : Nat) (ks : Nat) (tf9 : Int32) (fby : Nat → Int32) (tspc : Nat) (ksp : Nat) (ftsp : Nat → Int32) : Prop := MIo l G K yX10_takesComparison cX10_takesComparison 4 (some .boolean) 8 0 0 [.ref h0] [(h0, oX10 tby (nI kt) tln tsp (CKD fby kt ks) (nI ks) (nI (TKE fby kt ks)) tf9), (tby, iA G 240 fby), (tsp, oX8 120 1 tspc (nI ksp)), (tspc, iA G 120 ftsp)] (fun (r : Int32) (u : Nat × Int32 × Nat × (Nat → Int32)) => ((r = 1 ∧ (CMP fby kt ks).1 = 1 ∧ (CMP fby kt ks).2.1 = u.1 ∧ tf9 = u.2.1 ∧ ksp + 1 = u.2.2.1 ∧ upd ftsp ksp (nI (CMP fby kt ks).2.2) = u.2.2.2) ∨ (r = 0 ∧ (CMP fby kt ks).1 = 0 ∧ (CMP fby kt ks).2.1 = u.1 ∧ nI (CMP fby kt ks).2.1 = u.2.1 ∧ ksp = u.2.2.1 ∧ ftsp = u.2.2.2 ∧ (CMP fby kt ks).2.1 ≤ kt))) (fun u : Nat × Int32 × Nat × (Nat → Int32) => [(h0, oX10 tby (nI kt) tln tsp (CKD fby kt u.1) (nI u.1) (nI (TKE fby kt u.1)) u.2.1), (tby, iA G 240 fby), (tsp, oX8 120 1 tspc (nI u.2.2.1)), (tspc, iA G 120 u.2.2.2)])
set_option maxHeartbeats 4000000 in
set_option maxRecDepth 100000 in
theorem t_takesComparison (l : Launch) (G : GG) (K : OO) (h0 : Nat) (tby : Nat) (kt : Nat) (tln : Nat) (tsp : Nat) (ks : Nat) (tf9 : Int32) (fby : Nat → Int32) (tspc : Nat) (ksp : Nat) (ftsp : Nat → Int32) (hkt : kt ≤ 240) (hks : ks ≤ kt) (hBB : BNN fby kt) (hksp : ksp < 120) : K_t_takesComparison l G K h0 tby kt tln tsp ks tf9 fby tspc ksp ftsp := by
  refine MIo.start (by decide +kernel) (Nat.le_of_ble_eq_true rfl) ?_
  intro p e s m below meth c A ls hC hK hP hD hS hA hl hO
  refine absQ (fun Q0 hQ0 => ?_)
  have hl : lv_has ls 4 [(0, .ref h0)] := hl
  refine Kan8 hC (fun hx hb hr hml hB hown hlocks hnm => ?_)
  have tk0 := TKE.ge (bt := fby) (n := kt) (s := ks) hks
  refine lv_aload_n hx hb gX10_takesComparison_0.1 rfl (lv_at0 hl) ?_
  refine pVo hO hS hC hK hl hP hD (t_factHere l G K h0 tby kt tln tsp ks tf9 fby (hkt) (hks) (hBB)) si_X10_165 [0, 1] sm_0_1 fm_0_1 nd_0_1 rfl rfl rfl rfl rfl (Nat.le_of_ble_eq_true rfl) rm_8_7_1 ⟨by first | exact Nat.le_of_ble_eq_true rfl | exact Nat.zero_le _, by first | exact Nat.le_of_ble_eq_true rfl | exact Nat.zero_le _⟩ gX10_takesComparison_0.2.1 (Kors (Keqa fun a2910 => ?_) (Keqa fun a2910 => ?_))
  · have hq2911 := a2910
    refine lv_istore_n (lv' := [(1, .int (-1)), (0, .ref h0)]) hx hb gX10_takesComparison_0.2.2.1 rfl hl (by decide) rfl (fun ls hl => ?_)
    refine lv_iload_n hx hb gX10_takesComparison_0.2.2.2.1 rfl (lv_at0 hl) ?_
    refine lv_if_ge (tgt := 14) hx hb gX10_takesComparison_0.2.2.2.2.1 (by decide) (fun c9 => absurd c9 (by decide)) (fun _ => ?_)
    refine lv_aload_n hx hb gX10_takesComparison_0.2.2.2.2.2.1 rfl (lv_at1 hl) ?_
    refine iV (wr := [(tby, iA G 240 fby), (tsp, oX8 120 1 tspc (nI ksp)), (tspc, iA G 120 ftsp)]) hC hK hl hP hD hS hA (t_refuseX l G h0 tby kt tln tsp (CKD fby kt ks) ks (TKE fby kt ks) tf9) si_X10_106 [0] [1, 2, 3] sm_0 fm_0 nd_0 sm_1_2_3 nd_1_2_3 dj_0__1_2_3 rfl rfl rfl rfl rfl (Nat.le_of_ble_eq_true rfl) rm_8_1_1 ⟨Nat.le_of_ble_eq_true rfl, Nat.le_of_ble_eq_true rfl⟩ gX10_takesComparison_0.2.2.2.2.2.2.1 (fun r2912 u2913 H locs hr2912 hP hD hS => ?_)
    refine Kpdr (ws := [(tby, iA G 240 fby), (tsp, oX8 120 1 tspc (nI ksp)), (tspc, iA G 120 ftsp), (h0, oX10 tby (nI kt) tln tsp (CKD fby kt ks) (nI ks) (nI (TKE fby kt ks)) (nI ks))]) hP hD (fun hP hD => ?_)
    obtain rfl := hr2912
    refine toQ hQ0 ?_
    exact RI (v := 0) hC hP hD hS [3, 0, 1, 2] (ks, nI ks, ksp, ftsp) rfl rfl (by decide) (Or.inr ⟨rfl, (CMP.g0 hq2911).1, (CMP.g0 hq2911).2, congrArg nI (CMP.g0 hq2911).2, rfl, rfl, Nat.le_trans (Nat.le_of_eq (CMP.g0 hq2911).2) (by omega)⟩) (by decide +kernel) gX10_takesComparison_0.2.2.2.2.2.2.2.1
  · obtain ⟨hq2915, hq2916⟩ := a2910
    refine lv_istore_n (lv' := [(1, .int (nI (FAV fby kt ks))), (0, .ref h0)]) hx hb gX10_takesComparison_0.2.2.1 rfl hl (by decide) rfl (fun ls hl => ?_)
    refine lv_iload_n hx hb gX10_takesComparison_0.2.2.2.1 rfl (lv_at0 hl) ?_
    refine lv_if_ge (tgt := 14) hx hb gX10_takesComparison_0.2.2.2.2.1 (by decide) (fun _ => ?_) (fun c9 => absurd (Int32.not_lt.mp (nI_pos (by omega))) c9)
    refine lv_aload_n hx hb gX10_takesComparison_0.2.2.2.2.2.2.2.2.1 rfl (lv_at1 hl) ?_
    refine vV (wr := [(tsp, oX8 120 1 tspc (nI ksp)), (tspc, iA G 120 ftsp)]) hC hK hl hP hD hS hA (t_advT l G h0 tby kt tln tsp ks tf9 fby (hkt) (hks) (hBB)) si_X10_47 [0, 1] [2, 3] sm_0_1 fm_0_1 nd_0_1 sm_2_3 nd_2_3 dj_0_1__2_3 rfl rfl rfl rfl rfl (Nat.le_of_ble_eq_true rfl) rm_8_3_1 ⟨Nat.le_of_ble_eq_true rfl, Nat.le_of_ble_eq_true rfl⟩ gX10_takesComparison_0.2.2.2.2.2.2.2.2.2 (fun u2918 H locs hr2917 hP hD hS => ?_)
    refine Kpdr (ws := [(tsp, oX8 120 1 tspc (nI ksp)), (tspc, iA G 120 ftsp), (h0, oX10 tby (nI kt) tln tsp (CKD fby kt (NXT fby kt ks)) (nI (NXT fby kt ks)) (nI (TKE fby kt (NXT fby kt ks))) tf9), (tby, iA G 240 fby)]) hP hD (fun hP hD => ?_)
    have xn2919 := NXT.ge (bt := fby) (n := kt) (s := ks) (by omega)
    refine lv_aload_n hx hb gX10_takesComparison_1.1 rfl (lv_at1 hl) ?_
    refine pV hC hK hl hP hD (t_signHere l G fby h0 tby kt tln tsp (NXT fby kt ks) tf9 (hBB)) si_X10_168 [2] sm_2 fm_2 nd_2 rfl rfl rfl rfl rfl (Nat.le_of_ble_eq_true rfl) rm_8_1_1 ⟨by first | exact Nat.le_of_ble_eq_true rfl | exact Nat.zero_le _, by first | exact Nat.le_of_ble_eq_true rfl | exact Nat.zero_le _⟩ gX10_takesComparison_1.2.1 (Kors (Keqa fun a2921 => ?_) (Keqa fun a2921 => ?_))
    · have hq2922 := a2921
      refine lv_istore_n (lv' := [(2, .int (-1)), (1, .int (nI (FAV fby kt ks))), (0, .ref h0)]) hx hb gX10_takesComparison_1.2.2.1 rfl hl (by decide) rfl (fun ls hl => ?_)
      refine lv_iload_n hx hb gX10_takesComparison_1.2.2.2.1 rfl (lv_at0 hl) ?_
      refine lv_if_ge (tgt := 32) hx hb gX10_takesComparison_1.2.2.2.2.1 (by decide) (fun c9 => absurd c9 (by decide)) (fun _ => ?_)
      refine lv_aload_n hx hb gX10_takesComparison_1.2.2.2.2.2.1 rfl (lv_at2 hl) ?_
      refine iV (wr := [(tsp, oX8 120 1 tspc (nI ksp)), (tspc, iA G 120 ftsp), (tby, iA G 240 fby)]) hC hK hl hP hD hS hA (t_refuseX l G h0 tby kt tln tsp (CKD fby kt (NXT fby kt ks)) (NXT fby kt ks) (TKE fby kt (NXT fby kt ks)) tf9) si_X10_106 [2] [0, 1, 3] sm_2 fm_2 nd_2 sm_0_1_3 nd_0_1_3 dj_2__0_1_3 rfl rfl rfl rfl rfl (Nat.le_of_ble_eq_true rfl) rm_8_1_1 ⟨Nat.le_of_ble_eq_true rfl, Nat.le_of_ble_eq_true rfl⟩ gX10_takesComparison_1.2.2.2.2.2.2.1 (fun r2923 u2924 H locs hr2923 hP hD hS => ?_)
      refine Kpdr (ws := [(tsp, oX8 120 1 tspc (nI ksp)), (tspc, iA G 120 ftsp), (tby, iA G 240 fby), (h0, oX10 tby (nI kt) tln tsp (CKD fby kt (NXT fby kt ks)) (nI (NXT fby kt ks)) (nI (TKE fby kt (NXT fby kt ks))) (nI (NXT fby kt ks)))]) hP hD (fun hP hD => ?_)
      obtain rfl := hr2923
      refine toQ hQ0 ?_
      exact RI (v := 0) hC hP hD hS [3, 2, 0, 1] ((NXT fby kt ks), nI (NXT fby kt ks), ksp, ftsp) rfl rfl (by decide) (Or.inr ⟨rfl, (CMP.g1 hq2915 hq2922).1, (CMP.g1 hq2915 hq2922).2, congrArg nI (CMP.g1 hq2915 hq2922).2, rfl, rfl, Nat.le_trans (Nat.le_of_eq (CMP.g1 hq2915 hq2922).2) (by omega)⟩) (by decide +kernel) gX10_takesComparison_1.2.2.2.2.2.2.2.1
    · obtain ⟨hq2926, hq2927⟩ := a2921
      refine lv_istore_n (lv' := [(2, .int (nI (SIV fby kt (NXT fby kt ks)))), (1, .int (nI (FAV fby kt ks))), (0, .ref h0)]) hx hb gX10_takesComparison_1.2.2.1 rfl hl (by decide) rfl (fun ls hl => ?_)
      refine lv_iload_n hx hb gX10_takesComparison_1.2.2.2.1 rfl (lv_at0 hl) ?_
      refine lv_if_ge (tgt := 32) hx hb gX10_takesComparison_1.2.2.2.2.1 (by decide) (fun _ => ?_) (fun c9 => absurd (Int32.not_lt.mp (nI_pos (by omega))) c9)
      refine lv_aload_n hx hb gX10_takesComparison_1.2.2.2.2.2.2.2.2.1 rfl (lv_at2 hl) ?_
      refine vV (wr := [(tsp, oX8 120 1 tspc (nI ksp)), (tspc, iA G 120 ftsp)]) hC hK hl hP hD hS hA (t_advT l G h0 tby kt tln tsp (NXT fby kt ks) tf9 fby (hkt) (by omega) (hBB)) si_X10_47 [2, 3] [0, 1] sm_2_3 fm_2_3 nd_2_3 sm_0_1 nd_0_1 dj_2_3__0_1 rfl rfl rfl rfl rfl (Nat.le_of_ble_eq_true rfl) rm_8_3_1 ⟨Nat.le_of_ble_eq_true rfl, Nat.le_of_ble_eq_true rfl⟩ gX10_takesComparison_1.2.2.2.2.2.2.2.2.2 (fun u2929 H locs hr2928 hP hD hS => ?_)
      refine Kpdr (ws := [(tsp, oX8 120 1 tspc (nI ksp)), (tspc, iA G 120 ftsp), (h0, oX10 tby (nI kt) tln tsp (CKD fby kt (NXT fby kt (NXT fby kt ks))) (nI (NXT fby kt (NXT fby kt ks))) (nI (TKE fby kt (NXT fby kt (NXT fby kt ks)))) tf9), (tby, iA G 240 fby)]) hP hD (fun hP hD => ?_)
      have xn2930 := NXT.ge (bt := fby) (n := kt) (s := (NXT fby kt ks)) (by omega)
      refine lv_aload_n hx hb gX10_takesComparison_2.1 rfl (lv_at2 hl) ?_
      refine pV hC hK hl hP hD (t_numberHere l G h0 tby kt tln tsp (NXT fby kt (NXT fby kt ks)) tf9 fby (hkt) (by omega) (hBB)) si_X10_109 [2, 3] sm_2_3 fm_2_3 nd_2_3 rfl rfl rfl rfl rfl (Nat.le_of_ble_eq_true rfl) rm_8_3_3 ⟨by first | exact Nat.le_of_ble_eq_true rfl | exact Nat.zero_le _, by first | exact Nat.le_of_ble_eq_true rfl | exact Nat.zero_le _⟩ gX10_takesComparison_2.2.1 (Kors (Keqa fun a2932 => ?_) (Keqa fun a2932 => ?_))
      · have hq2933 := a2932
        refine lv_istore_n (lv' := [(3, .int (-1)), (2, .int (nI (SIV fby kt (NXT fby kt ks)))), (1, .int (nI (FAV fby kt ks))), (0, .ref h0)]) hx hb gX10_takesComparison_2.2.2.1 rfl hl (by decide) rfl (fun ls hl => ?_)
        refine lv_iload_n hx hb gX10_takesComparison_2.2.2.2.1 rfl (lv_at0 hl) ?_
        refine lv_if_ge (tgt := 50) hx hb gX10_takesComparison_2.2.2.2.2.1 (by decide) (fun c9 => absurd c9 (by decide)) (fun _ => ?_)
        refine lv_aload_n hx hb gX10_takesComparison_2.2.2.2.2.2.1 rfl (lv_at3 hl) ?_
        refine iV (wr := [(tsp, oX8 120 1 tspc (nI ksp)), (tspc, iA G 120 ftsp), (tby, iA G 240 fby)]) hC hK hl hP hD hS hA (t_refuseX l G h0 tby kt tln tsp (CKD fby kt (NXT fby kt (NXT fby kt ks))) (NXT fby kt (NXT fby kt ks)) (TKE fby kt (NXT fby kt (NXT fby kt ks))) tf9) si_X10_106 [2] [0, 1, 3] sm_2 fm_2 nd_2 sm_0_1_3 nd_0_1_3 dj_2__0_1_3 rfl rfl rfl rfl rfl (Nat.le_of_ble_eq_true rfl) rm_8_1_1 ⟨Nat.le_of_ble_eq_true rfl, Nat.le_of_ble_eq_true rfl⟩ gX10_takesComparison_2.2.2.2.2.2.2.1 (fun r2934 u2935 H locs hr2934 hP hD hS => ?_)
        refine Kpdr (ws := [(tsp, oX8 120 1 tspc (nI ksp)), (tspc, iA G 120 ftsp), (tby, iA G 240 fby), (h0, oX10 tby (nI kt) tln tsp (CKD fby kt (NXT fby kt (NXT fby kt ks))) (nI (NXT fby kt (NXT fby kt ks))) (nI (TKE fby kt (NXT fby kt (NXT fby kt ks)))) (nI (NXT fby kt (NXT fby kt ks))))]) hP hD (fun hP hD => ?_)
        obtain rfl := hr2934
        refine toQ hQ0 ?_
        exact RI (v := 0) hC hP hD hS [3, 2, 0, 1] ((NXT fby kt (NXT fby kt ks)), nI (NXT fby kt (NXT fby kt ks)), ksp, ftsp) rfl rfl (by decide) (Or.inr ⟨rfl, (CMP.g2 hq2915 hq2926 hq2933).1, (CMP.g2 hq2915 hq2926 hq2933).2, congrArg nI (CMP.g2 hq2915 hq2926 hq2933).2, rfl, rfl, Nat.le_trans (Nat.le_of_eq (CMP.g2 hq2915 hq2926 hq2933).2) (by omega)⟩) (by decide +kernel) gX10_takesComparison_2.2.2.2.2.2.2.2.1
      · obtain ⟨hq2937, hq2938⟩ := a2932
        have xl2939 := NMO.len hq2937 (by omega)
        refine lv_istore_n (lv' := [(3, .int (nI (NVL fby kt (NXT fby kt (NXT fby kt ks))))), (2, .int (nI (SIV fby kt (NXT fby kt ks)))), (1, .int (nI (FAV fby kt ks))), (0, .ref h0)]) hx hb gX10_takesComparison_2.2.2.1 rfl hl (by decide) rfl (fun ls hl => ?_)
        refine lv_iload_n hx hb gX10_takesComparison_2.2.2.2.1 rfl (lv_at0 hl) ?_
        refine lv_if_ge (tgt := 50) hx hb gX10_takesComparison_2.2.2.2.2.1 (by decide) (fun _ => ?_) (fun c9 => absurd (Int32.not_lt.mp (nI_pos (by omega))) c9)
        refine lv_aload_n hx hb gX10_takesComparison_2.2.2.2.2.2.2.2.2.1 rfl (lv_at3 hl) ?_
        refine vV (wr := [(tsp, oX8 120 1 tspc (nI ksp)), (tspc, iA G 120 ftsp)]) hC hK hl hP hD hS hA (t_advT l G h0 tby kt tln tsp (NXT fby kt (NXT fby kt ks)) tf9 fby (hkt) (by omega) (hBB)) si_X10_47 [2, 3] [0, 1] sm_2_3 fm_2_3 nd_2_3 sm_0_1 nd_0_1 dj_2_3__0_1 rfl rfl rfl rfl rfl (Nat.le_of_ble_eq_true rfl) rm_8_3_1 ⟨Nat.le_of_ble_eq_true rfl, Nat.le_of_ble_eq_true rfl⟩ gX10_takesComparison_2.2.2.2.2.2.2.2.2.2 (fun u2941 H locs hr2940 hP hD hS => ?_)
        refine Kpdr (ws := [(tsp, oX8 120 1 tspc (nI ksp)), (tspc, iA G 120 ftsp), (h0, oX10 tby (nI kt) tln tsp (CKD fby kt (NXT fby kt (NXT fby kt (NXT fby kt ks)))) (nI (NXT fby kt (NXT fby kt (NXT fby kt ks)))) (nI (TKE fby kt (NXT fby kt (NXT fby kt (NXT fby kt ks))))) tf9), (tby, iA G 240 fby)]) hP hD (fun hP hD => ?_)
        have xn2942 := NXT.ge (bt := fby) (n := kt) (s := (NXT fby kt (NXT fby kt ks))) (by omega)
        refine lv_aload_n hx hb gX10_takesComparison_3.1 rfl (lv_at3 hl) ?_
        refine lv_iload_n hx hb gX10_takesComparison_3.2.1 rfl (lv_at2 hl) ?_
        refine lv_iconst (v := 3) hx hb gX10_takesComparison_3.2.2.1 (by decide) ?_
        refine lv_imul hx hb gX10_takesComparison_3.2.2.2.1 ?_
        refine eqi (x1 := nI ((FAV fby kt ks) * 3)) (nI_mul (FAV fby kt ks) 3) ?_
        refine lv_iload_n hx hb gX10_takesComparison_3.2.2.2.2.1 rfl (lv_at1 hl) ?_
        refine lv_iadd hx hb gX10_takesComparison_3.2.2.2.2.2.1 ?_
        refine eqi (x1 := nI ((FAV fby kt ks) * 3 + (SIV fby kt (NXT fby kt ks)))) (nI_add ((FAV fby kt ks) * 3) (SIV fby kt (NXT fby kt ks))) ?_
        refine lv_sipush (v := 1000) hx hb gX10_takesComparison_3.2.2.2.2.2.2.1 (by decide) ?_
        refine lv_imul hx hb gX10_takesComparison_3.2.2.2.2.2.2.2.1 ?_
        refine eqi (x1 := nI (((FAV fby kt ks) * 3 + (SIV fby kt (NXT fby kt ks))) * 1000)) (nI_mul ((FAV fby kt ks) * 3 + (SIV fby kt (NXT fby kt ks))) 1000) ?_
        refine lv_iload_n hx hb gX10_takesComparison_3.2.2.2.2.2.2.2.2.1 rfl (lv_at0 hl) ?_
        refine lv_iadd hx hb gX10_takesComparison_3.2.2.2.2.2.2.2.2.2 ?_
        refine eqi (x1 := nI (((FAV fby kt ks) * 3 + (SIV fby kt (NXT fby kt ks))) * 1000 + (NVL fby kt (NXT fby kt (NXT fby kt ks))))) (nI_add (((FAV fby kt ks) * 3 + (SIV fby kt (NXT fby kt ks))) * 1000) (NVL fby kt (NXT fby kt (NXT fby kt ks)))) ?_
        refine vV (wr := [(tby, iA G 240 fby)]) hC hK hl hP hD hS hA (t_addStep l G h0 (nI (((FAV fby kt ks) * 3 + (SIV fby kt (NXT fby kt ks))) * 1000 + (NVL fby kt (NXT fby kt (NXT fby kt ks))))) tby kt tln tsp (CKD fby kt (NXT fby kt (NXT fby kt (NXT fby kt ks)))) (NXT fby kt (NXT fby kt (NXT fby kt ks))) (TKE fby kt (NXT fby kt (NXT fby kt (NXT fby kt ks)))) tf9 tspc ksp ftsp (hksp)) si_X10_152 [2, 0, 1] [3] sm_2_0_1 fm_2_0_1 nd_2_0_1 sm_3 nd_3 dj_2_0_1__3 rfl rfl rfl rfl rfl (Nat.le_of_ble_eq_true rfl) rm_8_2_2 ⟨Nat.le_of_ble_eq_true rfl, Nat.le_of_ble_eq_true rfl⟩ gX10_takesComparison_4.1 (fun u2944 H locs hr2943 hP hD hS => ?_)
        refine Kpdr (ws := [(tby, iA G 240 fby), (h0, oX10 tby (nI kt) tln tsp (CKD fby kt (NXT fby kt (NXT fby kt (NXT fby kt ks)))) (nI (NXT fby kt (NXT fby kt (NXT fby kt ks)))) (nI (TKE fby kt (NXT fby kt (NXT fby kt (NXT fby kt ks))))) tf9), (tsp, oX8 120 1 tspc (nI (ksp + 1))), (tspc, iA G 120 (upd ftsp ksp (nI (((FAV fby kt ks) * 3 + (SIV fby kt (NXT fby kt ks))) * 1000 + (NVL fby kt (NXT fby kt (NXT fby kt ks)))))))]) hP hD (fun hP hD => ?_)
        refine lv_iconst (v := 1) hx hb gX10_takesComparison_4.2.1 (by decide) ?_
        refine toQ hQ0 ?_
        exact RI (v := 1) hC hP hD hS [1, 0, 2, 3] ((NXT fby kt (NXT fby kt (NXT fby kt ks))), tf9, (ksp + 1), (upd ftsp ksp (nI (((FAV fby kt ks) * 3 + (SIV fby kt (NXT fby kt ks))) * 1000 + (NVL fby kt (NXT fby kt (NXT fby kt ks))))))) rfl rfl (by decide) (Or.inl ⟨rfl, (CMP.g3 hq2915 hq2926 hq2937).1, (CMP.g3 hq2915 hq2926 hq2937).2.1, rfl, rfl, congrArg (fun z9 => upd ftsp ksp (nI z9)) (CMP.g3 hq2915 hq2926 hq2937).2.2⟩) (by decide +kernel) gX10_takesComparison_4.2.2
def K_t_one (l : Launch) (G : GG) (K : OO) (mn : Nat) (h0 : Nat) (jo : Nat) (tby : Nat) (kt : Nat) (tln : Nat) (tsp : Nat) (ks : Nat) (tf9 : Int32) (fby : Nat → Int32) (tspc : Nat) (ksp : Nat) (ftsp : Nat → Int32) (cs : List Int32) (rs : List Int32) : Prop := MIo l G K yX10_takesOne cX10_takesOne 4 (some .boolean) (9 + 4 * mn) 0 0 [.ref h0, .int (nI jo)] [(h0, oX10 tby (nI kt) tln tsp (CKD fby kt ks) (nI ks) (nI (TKE fby kt ks)) tf9), (tby, iA G 240 fby), (tsp, oX8 120 1 tspc (nI ksp)), (tspc, iA G 120 ftsp)] (fun (r : Int32) (u : Nat × Int32 × Nat × (Nat → Int32) × (List Int32) × (List Int32)) => ((r = 1 ∧ RT fby kt 0 jo 0 ks cs rs (1, u.1, u.2.2.2.2.1, u.2.2.2.2.2) ∧ STP u.2.2.1 u.2.2.2.1 u.2.2.2.2.1 ∧ tf9 = u.2.1) ∨ (r = 0 ∧ RT fby kt 0 jo 0 ks cs rs (0, u.1, [], []) ∧ nI u.1 = u.2.1 ∧ u.1 ≤ kt ∧ u.2.2.1 ≤ 120))) (fun u : Nat × Int32 × Nat × (Nat → Int32) × (List Int32) × (List Int32) => [(h0, oX10 tby (nI kt) tln tsp (CKD fby kt u.1) (nI u.1) (nI (TKE fby kt u.1)) u.2.1), (tby, iA G 240 fby), (tsp, oX8 120 1 tspc (nI u.2.2.1)), (tspc, iA G 120 u.2.2.2.1)])
set_option maxHeartbeats 4000000 in
set_option maxRecDepth 100000 in
theorem t_one (l : Launch) (G : GG) (K : OO) (mn : Nat) (h0 : Nat) (jo : Nat) (tby : Nat) (kt : Nat) (tln : Nat) (tsp : Nat) (ks : Nat) (tf9 : Int32) (fby : Nat → Int32) (tspc : Nat) (ksp : Nat) (ftsp : Nat → Int32) (cs : List Int32) (rs : List Int32) (hkt : kt ≤ 240) (hks : ks ≤ kt) (hBB : BNN fby kt) (hST : STP ksp ftsp cs) (h3s : 3 * ksp ≤ ks) (hjm : jo + mn = 4) (ihC : ∀ m9, m9 < mn → ∀ (h0 : Nat) (jo : Nat) (tby : Nat) (kt : Nat) (tln : Nat) (tsp : Nat) (ks : Nat) (tf9 : Int32) (fby : Nat → Int32) (tspc : Nat) (ksp : Nat) (ftsp : Nat → Int32) (cs : List Int32) (rs : List Int32) (hkt : kt ≤ 240) (hks : ks ≤ kt) (hBB : BNN fby kt) (hST : STP ksp ftsp cs) (h3s : 3 * ksp ≤ ks) (hjm : jo + m9 = 4), MIo l G K yX10_takesCond cX10_takesCond 3 (some .boolean) (11 + 4 * m9) 0 0 [.ref h0, .int (nI jo)] [(h0, oX10 tby (nI kt) tln tsp (CKD fby kt ks) (nI ks) (nI (TKE fby kt ks)) tf9), (tby, iA G 240 fby), (tsp, oX8 120 1 tspc (nI ksp)), (tspc, iA G 120 ftsp)] (fun (r : Int32) (u : Nat × Int32 × Nat × (Nat → Int32) × (List Int32) × (List Int32)) => ((r = 1 ∧ RT fby kt 2 jo 0 ks cs rs (1, u.1, u.2.2.2.2.1, u.2.2.2.2.2) ∧ STP u.2.2.1 u.2.2.2.1 u.2.2.2.2.1 ∧ tf9 = u.2.1) ∨ (r = 0 ∧ RT fby kt 2 jo 0 ks cs rs (0, u.1, [], []) ∧ nI u.1 = u.2.1 ∧ u.1 ≤ kt ∧ u.2.2.1 ≤ 120))) (fun u : Nat × Int32 × Nat × (Nat → Int32) × (List Int32) × (List Int32) => [(h0, oX10 tby (nI kt) tln tsp (CKD fby kt u.1) (nI u.1) (nI (TKE fby kt u.1)) u.2.1), (tby, iA G 240 fby), (tsp, oX8 120 1 tspc (nI u.2.2.1)), (tspc, iA G 120 u.2.2.2.1)])) : K_t_one l G K mn h0 jo tby kt tln tsp ks tf9 fby tspc ksp ftsp cs rs := by
  refine MIo.start (by decide +kernel) (Nat.le_of_ble_eq_true rfl) ?_
  intro p e s m below meth c A ls hC hK hP hD hS hA hl hO
  refine absQ (fun Q0 hQ0 => ?_)
  have hl : lv_has ls 4 [(0, .ref h0), (1, .int (nI jo))] := hl
  refine Kan8 hC (fun hx hb hr hml hB hown hlocks hnm => ?_)
  have tk0 := TKE.ge (bt := fby) (n := kt) (s := ks) hks
  have hs1 := hST.1
  refine lv_iconst (v := 0) hx hb gX10_takesOne_0.1 (by decide) ?_
  refine lv_istore_n (lv' := [(2, .int 0), (0, .ref h0), (1, .int (nI jo))]) hx hb gX10_takesOne_0.2.1 rfl hl (by decide) rfl (fun ls hl => ?_)
  refine lv_iconst (v := 0) hx hb gX10_takesOne_0.2.2.1 (by decide) ?_
  refine lv_istore_n (lv' := [(3, .int 0), (2, .int 0), (0, .ref h0), (1, .int (nI jo))]) hx hb gX10_takesOne_0.2.2.2.1 rfl hl (by decide) rfl (fun ls hl => ?_)
  have keyT : ∀ (nT : Nat) (vks : Nat) (vn : Nat) (tu : Int32) (H : Heap) (locs : List Loc) (ls : Array Slot), (ks + 3 * vn ≤ vks ∧ vks ≤ kt ∧ 241 ≤ vks + nT) → (TUR tu vn) → (∀ r, RT fby kt 0 jo vn vks cs rs r → RT fby kt 0 jo 0 ks cs rs r) → va_PD G A [(h0, oX10 tby (nI kt) tln tsp (CKD fby kt vks) (nI vks) (nI (TKE fby kt vks)) tf9), (tby, iA G 240 fby), (tsp, oX8 120 1 tspc (nI ksp)), (tspc, iA G 120 ftsp)] H → va_S A s.heap H locs → lv_has ls 4 [(3, .int (nI vn)), (2, .int tu), (0, .ref h0), (1, .int (nI jo))] → W p l e (RM (9 + 4 * mn) 0 0) s m ([.ref h0, .int (nI jo)] : List Value).toArray below meth c H locs 0 0 Q0 (F0 m 4 ls []) := by
    intro nT
    induction nT with
    | zero =>
      intro vks vn tu H locs ls hiT htu hco hPD hS hl
      refine Kan2 hPD (fun hP hD => ?_)
      exact (show False by omega).elim
    | succ nT ihT =>
      intro vks vn tu H locs ls hiT htu hco hPD hS hl
      refine Kan2 hPD (fun hP hD => ?_)
      have tkv := TKE.ge (bt := fby) (n := kt) (s := vks) (by omega)
      refine lv_iload_n hx hb gX10_takesOne_0.2.2.2.2.1 rfl (lv_at0 hl) ?_
      refine lv_sipush (v := 240) hx hb gX10_takesOne_0.2.2.2.2.2.1 (by decide) ?_
      refine lv_icmp_ge (tgt := 40) hx hb gX10_takesOne_0.2.2.2.2.2.2.1 (by decide) (fun c9 => absurd c9 (nI_ge (a := vn) (b := 240) (by omega) (by omega))) (fun _ => ?_)
      refine lv_aload_n hx hb gX10_takesOne_0.2.2.2.2.2.2.2.1 rfl (lv_at2 hl) ?_
      refine va_ldcS (index := 160) (tx := "not") hx hb hown (hO.2.1 10 (by decide)) gX10_takesOne_0.2.2.2.2.2.2.2.2.1 ?_
      refine pVo hO hS hC hK hl hP hD (t_isName l G K 10 h0 tby kt tln tsp vks tf9 fby (hkt) (by omega) (hBB) ((by decide))) si_X10_102 [0, 1] sm_0_1 fm_0_1 nd_0_1 rfl rfl rfl rfl rfl (Nat.le_of_ble_eq_true rfl) (rmT (Nat.le_of_ble_eq_true rfl) (Nat.le_of_ble_eq_true rfl)) ⟨by first | exact Nat.le_of_ble_eq_true rfl | exact Nat.zero_le _, by first | exact Nat.le_of_ble_eq_true rfl | exact Nat.zero_le _⟩ gX10_takesOne_0.2.2.2.2.2.2.2.2.2 (Kors (Keqa fun a2946 => ?_) (Keqa fun a2946 => ?_))
      · have hq2947 := a2946
        have xl2948 : vks + 3 ≤ NXT fby kt vks ∧ NXT fby kt vks ≤ kt := WRD.len hq2947 (by omega)
        refine lv_if_eq (tgt := 40) hx hb gX10_takesOne_1.1 (by decide) (fun c9 => absurd c9 (by decide)) (fun _ => ?_)
        refine lv_aload_n hx hb gX10_takesOne_1.2.1 rfl (lv_at2 hl) ?_
        refine vV (wr := [(tsp, oX8 120 1 tspc (nI ksp)), (tspc, iA G 120 ftsp)]) hC hK hl hP hD hS hA (t_advT l G h0 tby kt tln tsp vks tf9 fby (hkt) (by omega) (hBB)) si_X10_47 [0, 1] [2, 3] sm_0_1 fm_0_1 nd_0_1 sm_2_3 nd_2_3 dj_0_1__2_3 rfl rfl rfl rfl rfl (Nat.le_of_ble_eq_true rfl) (rmT (Nat.le_of_ble_eq_true rfl) (Nat.le_of_ble_eq_true rfl)) ⟨Nat.le_of_ble_eq_true rfl, Nat.le_of_ble_eq_true rfl⟩ gX10_takesOne_1.2.2.1 (fun u2950 H locs hr2949 hP hD hS => ?_)
        refine Kpdr (ws := [(tsp, oX8 120 1 tspc (nI ksp)), (tspc, iA G 120 ftsp), (h0, oX10 tby (nI kt) tln tsp (CKD fby kt (NXT fby kt vks)) (nI (NXT fby kt vks)) (nI (TKE fby kt (NXT fby kt vks))) tf9), (tby, iA G 240 fby)]) hP hD (fun hP hD => ?_)
        have xn2951 := NXT.ge (bt := fby) (n := kt) (s := vks) (by omega)
        refine lv_iload_n hx hb gX10_takesOne_1.2.2.2.1 rfl (lv_at1 hl) ?_
        refine lv_if_ne (tgt := 32) hx hb gX10_takesOne_1.2.2.2.2.1 (by decide) (fun c_25_2952 => ?_) (fun c_25_2952 => ?_)
        · refine lv_iconst (v := 0) hx hb gX10_takesOne_1.2.2.2.2.2.2.2.1 (by decide) ?_
          refine lv_istore_n (lv' := [(2, .int 0), (3, .int (nI vn)), (0, .ref h0), (1, .int (nI jo))]) hx hb gX10_takesOne_1.2.2.2.2.2.2.2.2.1 rfl hl (by decide) rfl (fun ls hl => ?_)
          refine lv_iinc (v := nI (vn + 1)) (lv' := [(3, .int (nI (vn + 1))), (2, .int 0), (0, .ref h0), (1, .int (nI jo))]) hx hb gX10_takesOne_1.2.2.2.2.2.2.2.2.2 hl (k := 1) rfl (nI_1 _) (by decide) rfl (fun ls hl => ?_)
          refine lv_goto (tgt := 4) hx hb gX10_takesOne_2.1 (by decide) ?_
          refine Kpds (ws' := [(h0, oX10 tby (nI kt) tln tsp (CKD fby kt (NXT fby kt vks)) (nI (NXT fby kt vks)) (nI (TKE fby kt (NXT fby kt vks))) tf9), (tby, iA G 240 fby), (tsp, oX8 120 1 tspc (nI ksp)), (tspc, iA G 120 ftsp)]) hP hD [2, 3, 0, 1] fm_2_3_0_1 nd_2_3_0_1 sm_2_3_0_1 (fun hP hD => ?_)
          exact ihT (NXT fby kt vks) (vn + 1) 0 _ _ _ (by omega) (TUR.b htu c_25_2952) (fun r h9 => hco r (RT.not hq2947 h9)) (And.intro hP hD) hS (lv_sub hl [0, 1, 2, 3] rfl)
        · refine lv_iconst (v := 1) hx hb gX10_takesOne_1.2.2.2.2.2.1 (by decide) ?_
          refine lv_goto (tgt := 33) hx hb gX10_takesOne_1.2.2.2.2.2.2.1 (by decide) ?_
          refine lv_istore_n (lv' := [(2, .int 1), (3, .int (nI vn)), (0, .ref h0), (1, .int (nI jo))]) hx hb gX10_takesOne_1.2.2.2.2.2.2.2.2.1 rfl hl (by decide) rfl (fun ls hl => ?_)
          refine lv_iinc (v := nI (vn + 1)) (lv' := [(3, .int (nI (vn + 1))), (2, .int 1), (0, .ref h0), (1, .int (nI jo))]) hx hb gX10_takesOne_1.2.2.2.2.2.2.2.2.2 hl (k := 1) rfl (nI_1 _) (by decide) rfl (fun ls hl => ?_)
          refine lv_goto (tgt := 4) hx hb gX10_takesOne_2.1 (by decide) ?_
          refine Kpds (ws' := [(h0, oX10 tby (nI kt) tln tsp (CKD fby kt (NXT fby kt vks)) (nI (NXT fby kt vks)) (nI (TKE fby kt (NXT fby kt vks))) tf9), (tby, iA G 240 fby), (tsp, oX8 120 1 tspc (nI ksp)), (tspc, iA G 120 ftsp)]) hP hD [2, 3, 0, 1] fm_2_3_0_1 nd_2_3_0_1 sm_2_3_0_1 (fun hP hD => ?_)
          exact ihT (NXT fby kt vks) (vn + 1) 1 _ _ _ (by omega) (TUR.a htu c_25_2952) (fun r h9 => hco r (RT.not hq2947 h9)) (And.intro hP hD) hS (lv_sub hl [0, 1, 2, 3] rfl)
      · have hq2953 := a2946
        refine lv_if_eq (tgt := 40) hx hb gX10_takesOne_1.1 (by decide) (fun _ => ?_) (fun c9 => absurd (by decide) c9)
        refine lv_aload_n hx hb gX10_takesOne_2.2.1 rfl (lv_at2 hl) ?_
        refine gf_X10_31 hC rfl hK hP 0 rfl rfl gX10_takesOne_2.2.2.1 ?_
        refine lv_bipush (v := 40) hx hb gX10_takesOne_2.2.2.2.1 (by decide) ?_
        refine lv_icmp_eq (tgt := 58) hx hb gX10_takesOne_2.2.2.2.2.1 (by decide) (fun c_46_2954 => ?_) (fun c_46_2954 => ?_)
        · refine lv_iload_n hx hb gX10_takesOne_3.1 rfl (lv_at3 hl) ?_
          refine lv_iconst (v := 4) hx hb gX10_takesOne_3.2.1 (by decide) ?_
          refine lv_icmp_lt (tgt := 68) hx hb gX10_takesOne_3.2.2.1 (by decide) (fun c_60_2955 => ?_) (fun c_60_2955 => ?_)
          · have nb2956 : jo < 4 := (nI_ltI (a := jo) (b := 4) (by omega) (by omega)).mp c_60_2955
            refine lv_aload_n hx hb gX10_takesOne_3.2.2.2.2.2.2.1 rfl (lv_at2 hl) ?_
            refine vV (wr := [(tsp, oX8 120 1 tspc (nI ksp)), (tspc, iA G 120 ftsp)]) hC hK hl hP hD hS hA (t_advT l G h0 tby kt tln tsp vks tf9 fby (hkt) (by omega) (hBB)) si_X10_47 [0, 1] [2, 3] sm_0_1 fm_0_1 nd_0_1 sm_2_3 nd_2_3 dj_0_1__2_3 rfl rfl rfl rfl rfl (Nat.le_of_ble_eq_true rfl) (rmT (Nat.le_of_ble_eq_true rfl) (Nat.le_of_ble_eq_true rfl)) ⟨Nat.le_of_ble_eq_true rfl, Nat.le_of_ble_eq_true rfl⟩ gX10_takesOne_3.2.2.2.2.2.2.2.1 (fun u2959 H locs hr2958 hP hD hS => ?_)
            refine Kpdr (ws := [(tsp, oX8 120 1 tspc (nI ksp)), (tspc, iA G 120 ftsp), (h0, oX10 tby (nI kt) tln tsp (CKD fby kt (NXT fby kt vks)) (nI (NXT fby kt vks)) (nI (TKE fby kt (NXT fby kt vks))) tf9), (tby, iA G 240 fby)]) hP hD (fun hP hD => ?_)
            have xn2960 := NXT.ge (bt := fby) (n := kt) (s := vks) (by omega)
            refine lv_aload_n hx hb gX10_takesOne_3.2.2.2.2.2.2.2.2.1 rfl (lv_at2 hl) ?_
            refine lv_iload_n hx hb gX10_takesOne_3.2.2.2.2.2.2.2.2.2 rfl (lv_at3 hl) ?_
            refine lv_iconst (v := 1) hx hb gX10_takesOne_4.1 (by decide) ?_
            refine lv_iadd hx hb gX10_takesOne_4.2.1 ?_
            refine eqi (x1 := nI (jo + 1)) (nI_add jo 1) ?_
            refine iVo (wr := []) hO hC hK hl hP hD hS hA (ihC (mn - 1) (by omega) h0 (jo + 1) tby kt tln tsp (NXT fby kt vks) tf9 fby tspc ksp ftsp cs rs (by omega) (by omega) (hBB) (hST) (by omega) (by omega)) si_X10_121 [2, 3, 0, 1] [] sm_2_3_0_1 fm_2_3_0_1 nd_2_3_0_1 rfl rfl (by decide) rfl rfl rfl rfl rfl (Nat.le_of_ble_eq_true rfl) ⟨by simp only [RM]; omega, by simp only [RM]; omega⟩ ⟨Nat.le_of_ble_eq_true rfl, Nat.le_of_ble_eq_true rfl⟩ gX10_takesOne_4.2.2.1 (fun r2961 => Ktu6 fun ks12963 tf12964 ksp12965 gtsp2966 c12967 r12968 => ?_)
            intro H locs hr2961 hP hD hS
            try dsimp only at hr2961
            refine Kpdr (ws := [(h0, oX10 tby (nI kt) tln tsp (CKD fby kt ks12963) (nI ks12963) (nI (TKE fby kt ks12963)) tf12964), (tby, iA G 240 fby), (tsp, oX8 120 1 tspc (nI ksp12965)), (tspc, iA G 120 gtsp2966)]) hP hD (fun hP hD => ?_)
            rcases hr2961 with ⟨rfl, a2969⟩ | ⟨rfl, a2969⟩
            · obtain ⟨hq2970, hq2971, rfl⟩ := a2969
              have xl2972 := RT.len hq2970 (by decide) (by omega)
              have xl2973 := hq2971.1
              refine lv_if_eq (tgt := 91) hx hb gX10_takesOne_4.2.2.2.1 (by decide) (fun c9 => absurd c9 (by decide)) (fun _ => ?_)
              refine lv_aload_n hx hb gX10_takesOne_4.2.2.2.2.1 rfl (lv_at2 hl) ?_
              refine lv_bipush (v := 41) hx hb gX10_takesOne_4.2.2.2.2.2.1 (by decide) ?_
              refine iV (wr := [(tsp, oX8 120 1 tspc (nI ksp12965)), (tspc, iA G 120 gtsp2966)]) hC hK hl hP hD hS hA (t_takesByte l G h0 41 tby kt tln tsp ks12963 tf9 fby (hkt) (by omega) (hBB) (by decide)) si_X10_124 [0, 1] [2, 3] sm_0_1 fm_0_1 nd_0_1 sm_2_3 nd_2_3 dj_0_1__2_3 rfl rfl rfl rfl rfl (Nat.le_of_ble_eq_true rfl) (rmT (Nat.le_of_ble_eq_true rfl) (Nat.le_of_ble_eq_true rfl)) ⟨Nat.le_of_ble_eq_true rfl, Nat.le_of_ble_eq_true rfl⟩ gX10_takesOne_4.2.2.2.2.2.2.1 (fun r2974 => Ktu2 fun ks12976 tf12977 => ?_)
              intro H locs hr2974 hP hD hS
              try dsimp only at hr2974
              refine Kpdr (ws := [(tsp, oX8 120 1 tspc (nI ksp12965)), (tspc, iA G 120 gtsp2966), (h0, oX10 tby (nI kt) tln tsp (CKD fby kt ks12976) (nI ks12976) (nI (TKE fby kt ks12976)) tf12977), (tby, iA G 240 fby)]) hP hD (fun hP hD => ?_)
              rcases hr2974 with ⟨rfl, a2978⟩ | ⟨rfl, a2978⟩
              · obtain ⟨hq2979, rfl, rfl⟩ := a2978
                have xl2980 := SGN.len hq2979 (by omega)
                refine lv_if_ne (tgt := 93) hx hb gX10_takesOne_4.2.2.2.2.2.2.2.1 (by decide) (fun _ => ?_) (fun c9 => absurd c9 (by decide))
                refine lv_iload_n hx hb gX10_takesOne_5.1 rfl (lv_at1 hl) ?_
                refine lv_if_eq (tgt := 102) hx hb gX10_takesOne_5.2.1 (by decide) (fun c_94_2981 => ?_) (fun c_94_2981 => ?_)
                · refine lv_iconst (v := 1) hx hb gX10_takesOne_5.2.2.2.2.2.1 (by decide) ?_
                  refine toQ hQ0 ?_
                  exact RI (v := 1) hC hP hD hS [2, 3, 0, 1] ((NXT fby kt ks12963), tf9, ksp12965, gtsp2966, (c12967 ++ NOC vn), (r12968 ++ NTR vn)) rfl rfl (by decide) (Or.inl ⟨rfl, hco _ (RT.inO ((CKD.sg hBB (by decide)).mp c_46_2954) (by omega) hq2970 hq2979), STP.k0 hq2971 (TUR.e htu c_94_2981), rfl⟩) (by decide +kernel) gX10_takesOne_5.2.2.2.2.2.2
                · refine lv_aload_n hx hb gX10_takesOne_5.2.2.1 rfl (lv_at2 hl) ?_
                  refine lv_iconst (v := (-1)) hx hb gX10_takesOne_5.2.2.2.1 (by decide) ?_
                  refine vV (wr := [(tby, iA G 240 fby)]) hC hK hl hP hD hS hA (t_addStep l G h0 (-1) tby kt tln tsp (CKD fby kt (NXT fby kt ks12963)) (NXT fby kt ks12963) (TKE fby kt (NXT fby kt ks12963)) tf9 tspc ksp12965 gtsp2966 (by omega)) si_X10_152 [2, 0, 1] [3] sm_2_0_1 fm_2_0_1 nd_2_0_1 sm_3 nd_3 dj_2_0_1__3 rfl rfl rfl rfl rfl (Nat.le_of_ble_eq_true rfl) (rmT (Nat.le_of_ble_eq_true rfl) (Nat.le_of_ble_eq_true rfl)) ⟨Nat.le_of_ble_eq_true rfl, Nat.le_of_ble_eq_true rfl⟩ gX10_takesOne_5.2.2.2.2.1 (fun u2983 H locs hr2982 hP hD hS => ?_)
                  refine Kpdr (ws := [(tby, iA G 240 fby), (h0, oX10 tby (nI kt) tln tsp (CKD fby kt (NXT fby kt ks12963)) (nI (NXT fby kt ks12963)) (nI (TKE fby kt (NXT fby kt ks12963))) tf9), (tsp, oX8 120 1 tspc (nI (ksp12965 + 1))), (tspc, iA G 120 (upd gtsp2966 ksp12965 (-1)))]) hP hD (fun hP hD => ?_)
                  refine lv_iconst (v := 1) hx hb gX10_takesOne_5.2.2.2.2.2.1 (by decide) ?_
                  refine toQ hQ0 ?_
                  exact RI (v := 1) hC hP hD hS [1, 0, 2, 3] ((NXT fby kt ks12963), tf9, (ksp12965 + 1), (upd gtsp2966 ksp12965 (-1)), (c12967 ++ NOC vn), (r12968 ++ NTR vn)) rfl rfl (by decide) (Or.inl ⟨rfl, hco _ (RT.inO ((CKD.sg hBB (by decide)).mp c_46_2954) (by omega) hq2970 hq2979), STP.k1 hq2971 (TUR.o htu c_94_2981), rfl⟩) (by decide +kernel) gX10_takesOne_5.2.2.2.2.2.2
              · obtain ⟨hq2984, rfl, rfl⟩ := a2978
                refine lv_if_ne (tgt := 93) hx hb gX10_takesOne_4.2.2.2.2.2.2.2.1 (by decide) (fun c9 => absurd (by decide) c9) (fun _ => ?_)
                refine lv_iconst (v := 0) hx hb gX10_takesOne_4.2.2.2.2.2.2.2.2.1 (by decide) ?_
                refine toQ hQ0 ?_
                exact RI (v := 0) hC hP hD hS [2, 3, 0, 1] (ks12963, nI ks12963, ksp12965, gtsp2966, [], []) rfl rfl (by decide) (Or.inr ⟨rfl, hco _ (RT.inU ((CKD.sg hBB (by decide)).mp c_46_2954) (by omega) hq2970 hq2984), rfl, by (try dsimp only); omega, by (try dsimp only); omega⟩) (by decide +kernel) gX10_takesOne_4.2.2.2.2.2.2.2.2.2
            · obtain ⟨hq2985, rfl, hq2986, hq2987⟩ := a2969
              refine lv_if_eq (tgt := 91) hx hb gX10_takesOne_4.2.2.2.1 (by decide) (fun _ => ?_) (fun c9 => absurd (by decide) c9)
              refine lv_iconst (v := 0) hx hb gX10_takesOne_4.2.2.2.2.2.2.2.2.1 (by decide) ?_
              refine toQ hQ0 ?_
              exact RI (v := 0) hC hP hD hS [0, 1, 2, 3] (ks12963, nI ks12963, ksp12965, gtsp2966, [], []) rfl rfl (by decide) (Or.inr ⟨rfl, hco _ (RT.inF ((CKD.sg hBB (by decide)).mp c_46_2954) (by omega) hq2985 rfl), rfl, by (try dsimp only); omega, by (try dsimp only); omega⟩) (by decide +kernel) gX10_takesOne_4.2.2.2.2.2.2.2.2.2
          · have nb2957 : ¬ jo < 4 := fun h9 => c_60_2955 ((nI_ltI (a := jo) (b := 4) (by omega) (by omega)).mpr h9)
            refine lv_aload_n hx hb gX10_takesOne_3.2.2.2.1 rfl (lv_at2 hl) ?_
            refine iV (wr := [(tby, iA G 240 fby), (tsp, oX8 120 1 tspc (nI ksp)), (tspc, iA G 120 ftsp)]) hC hK hl hP hD hS hA (t_refuseX l G h0 tby kt tln tsp (CKD fby kt vks) vks (TKE fby kt vks) tf9) si_X10_106 [0] [1, 2, 3] sm_0 fm_0 nd_0 sm_1_2_3 nd_1_2_3 dj_0__1_2_3 rfl rfl rfl rfl rfl (Nat.le_of_ble_eq_true rfl) (rmT (Nat.le_of_ble_eq_true rfl) (Nat.le_of_ble_eq_true rfl)) ⟨Nat.le_of_ble_eq_true rfl, Nat.le_of_ble_eq_true rfl⟩ gX10_takesOne_3.2.2.2.2.1 (fun r2988 u2989 H locs hr2988 hP hD hS => ?_)
            refine Kpdr (ws := [(tby, iA G 240 fby), (tsp, oX8 120 1 tspc (nI ksp)), (tspc, iA G 120 ftsp), (h0, oX10 tby (nI kt) tln tsp (CKD fby kt vks) (nI vks) (nI (TKE fby kt vks)) (nI vks))]) hP hD (fun hP hD => ?_)
            obtain rfl := hr2988
            refine toQ hQ0 ?_
            exact RI (v := 0) hC hP hD hS [3, 0, 1, 2] (vks, nI vks, ksp, ftsp, [], []) rfl rfl (by decide) (Or.inr ⟨rfl, hco _ (RT.deep ((CKD.sg hBB (by decide)).mp c_46_2954) (by omega)), rfl, by (try dsimp only); omega, by (try dsimp only); omega⟩) (by decide +kernel) gX10_takesOne_3.2.2.2.2.2.1
        · refine lv_aload_n hx hb gX10_takesOne_2.2.2.2.2.2.1 rfl (lv_at2 hl) ?_
          refine iVo (wr := []) hO hC hK hl hP hD hS hA (t_takesComparison l G K h0 tby kt tln tsp vks tf9 fby tspc ksp ftsp (hkt) (by omega) (hBB) (by omega)) si_X10_162 [0, 1, 2, 3] [] sm_0_1_2_3 fm_0_1_2_3 nd_0_1_2_3 rfl rfl (by decide) rfl rfl rfl rfl rfl (Nat.le_of_ble_eq_true rfl) (rmT (Nat.le_of_ble_eq_true rfl) (Nat.le_of_ble_eq_true rfl)) ⟨Nat.le_of_ble_eq_true rfl, Nat.le_of_ble_eq_true rfl⟩ gX10_takesOne_2.2.2.2.2.2.2.1 (fun r2991 => Ktu4 fun ks12993 tf12994 ksp12995 gtsp2996 => ?_)
          intro H locs hr2991 hP hD hS
          try dsimp only at hr2991
          refine Kpdr (ws := [(h0, oX10 tby (nI kt) tln tsp (CKD fby kt ks12993) (nI ks12993) (nI (TKE fby kt ks12993)) tf12994), (tby, iA G 240 fby), (tsp, oX8 120 1 tspc (nI ksp12995)), (tspc, iA G 120 gtsp2996)]) hP hD (fun hP hD => ?_)
          rcases hr2991 with ⟨rfl, a2997⟩ | ⟨rfl, a2997⟩
          · obtain ⟨hq2998, rfl, rfl, rfl, rfl⟩ := a2997
            have xl2999 := CMP.len (CMP.e1 hq2998) (by omega)
            refine lv_if_ne (tgt := 93) hx hb gX10_takesOne_2.2.2.2.2.2.2.2.1 (by decide) (fun _ => ?_) (fun c9 => absurd c9 (by decide))
            refine lv_iload_n hx hb gX10_takesOne_5.1 rfl (lv_at1 hl) ?_
            refine lv_if_eq (tgt := 102) hx hb gX10_takesOne_5.2.1 (by decide) (fun c_94_3000 => ?_) (fun c_94_3000 => ?_)
            · refine lv_iconst (v := 1) hx hb gX10_takesOne_5.2.2.2.2.2.1 (by decide) ?_
              refine toQ hQ0 ?_
              exact RI (v := 1) hC hP hD hS [0, 1, 2, 3] (((CMP fby kt vks).2.1), tf9, (ksp + 1), upd ftsp ksp (nI (CMP fby kt vks).2.2), (cs ++ nI (CMP fby kt vks).2.2 :: NOC vn), (rs ++ nI (CMP fby kt vks).2.2 :: NTR vn)) rfl rfl (by decide) (Or.inl ⟨rfl, hco _ (RT.cmpO hq2953 (fun h9 => c_46_2954 ((CKD.sg hBB (by decide)).mpr h9)) (CMP.e1 hq2998)), STP.c0 hST (TUR.e htu c_94_3000), rfl⟩) (by decide +kernel) gX10_takesOne_5.2.2.2.2.2.2
            · refine lv_aload_n hx hb gX10_takesOne_5.2.2.1 rfl (lv_at2 hl) ?_
              refine lv_iconst (v := (-1)) hx hb gX10_takesOne_5.2.2.2.1 (by decide) ?_
              refine vV (wr := [(tby, iA G 240 fby)]) hC hK hl hP hD hS hA (t_addStep l G h0 (-1) tby kt tln tsp (CKD fby kt ((CMP fby kt vks).2.1)) ((CMP fby kt vks).2.1) (TKE fby kt ((CMP fby kt vks).2.1)) tf9 tspc (ksp + 1) (upd ftsp ksp (nI (CMP fby kt vks).2.2)) (by omega)) si_X10_152 [0, 2, 3] [1] sm_0_2_3 fm_0_2_3 nd_0_2_3 sm_1 nd_1 dj_0_2_3__1 rfl rfl rfl rfl rfl (Nat.le_of_ble_eq_true rfl) (rmT (Nat.le_of_ble_eq_true rfl) (Nat.le_of_ble_eq_true rfl)) ⟨Nat.le_of_ble_eq_true rfl, Nat.le_of_ble_eq_true rfl⟩ gX10_takesOne_5.2.2.2.2.1 (fun u3002 H locs hr3001 hP hD hS => ?_)
              refine Kpdr (ws := [(tby, iA G 240 fby), (h0, oX10 tby (nI kt) tln tsp (CKD fby kt ((CMP fby kt vks).2.1)) (nI ((CMP fby kt vks).2.1)) (nI (TKE fby kt ((CMP fby kt vks).2.1))) tf9), (tsp, oX8 120 1 tspc (nI ((ksp + 1) + 1))), (tspc, iA G 120 (upd (upd ftsp ksp (nI (CMP fby kt vks).2.2)) (ksp + 1) (-1)))]) hP hD (fun hP hD => ?_)
              refine lv_iconst (v := 1) hx hb gX10_takesOne_5.2.2.2.2.2.1 (by decide) ?_
              refine toQ hQ0 ?_
              exact RI (v := 1) hC hP hD hS [1, 0, 2, 3] (((CMP fby kt vks).2.1), tf9, ((ksp + 1) + 1), (upd (upd ftsp ksp (nI (CMP fby kt vks).2.2)) (ksp + 1) (-1)), (cs ++ nI (CMP fby kt vks).2.2 :: NOC vn), (rs ++ nI (CMP fby kt vks).2.2 :: NTR vn)) rfl rfl (by decide) (Or.inl ⟨rfl, hco _ (RT.cmpO hq2953 (fun h9 => c_46_2954 ((CKD.sg hBB (by decide)).mpr h9)) (CMP.e1 hq2998)), STP.c1 hST (TUR.o htu c_94_3000), rfl⟩) (by decide +kernel) gX10_takesOne_5.2.2.2.2.2.2
          · obtain ⟨hq3003, rfl, rfl, rfl, rfl, hq3004⟩ := a2997
            refine lv_if_ne (tgt := 93) hx hb gX10_takesOne_2.2.2.2.2.2.2.2.1 (by decide) (fun c9 => absurd (by decide) c9) (fun _ => ?_)
            refine lv_iconst (v := 0) hx hb gX10_takesOne_2.2.2.2.2.2.2.2.2.1 (by decide) ?_
            refine toQ hQ0 ?_
            exact RI (v := 0) hC hP hD hS [0, 1, 2, 3] (((CMP fby kt vks).2.1), nI (CMP fby kt vks).2.1, ksp, ftsp, [], []) rfl rfl (by decide) (Or.inr ⟨rfl, hco _ (RT.cmpF hq2953 (fun h9 => c_46_2954 ((CKD.sg hBB (by decide)).mpr h9)) (CMP.e0 hq3003)), rfl, by (try dsimp only); omega, by (try dsimp only); omega⟩) (by decide +kernel) gX10_takesOne_2.2.2.2.2.2.2.2.2.2
  exact keyT 241 ks 0 0 _ _ _ (by omega) (TUR.zero) (fun _ h9 => h9) (And.intro hP hD) hS (lv_sub hl [0, 1, 2, 3] rfl)
def K_t_all (l : Launch) (G : GG) (K : OO) (mn : Nat) (h0 : Nat) (jo : Nat) (tby : Nat) (kt : Nat) (tln : Nat) (tsp : Nat) (ks : Nat) (tf9 : Int32) (fby : Nat → Int32) (tspc : Nat) (ksp : Nat) (ftsp : Nat → Int32) (cs : List Int32) (rs : List Int32) : Prop := MIo l G K yX10_takesAll cX10_takesAll 3 (some .boolean) (10 + 4 * mn) 0 0 [.ref h0, .int (nI jo)] [(h0, oX10 tby (nI kt) tln tsp (CKD fby kt ks) (nI ks) (nI (TKE fby kt ks)) tf9), (tby, iA G 240 fby), (tsp, oX8 120 1 tspc (nI ksp)), (tspc, iA G 120 ftsp)] (fun (r : Int32) (u : Nat × Int32 × Nat × (Nat → Int32) × (List Int32) × (List Int32)) => ((r = 1 ∧ RT fby kt 1 jo 0 ks cs rs (1, u.1, u.2.2.2.2.1, u.2.2.2.2.2) ∧ STP u.2.2.1 u.2.2.2.1 u.2.2.2.2.1 ∧ tf9 = u.2.1) ∨ (r = 0 ∧ RT fby kt 1 jo 0 ks cs rs (0, u.1, [], []) ∧ nI u.1 = u.2.1 ∧ u.1 ≤ kt ∧ u.2.2.1 ≤ 120))) (fun u : Nat × Int32 × Nat × (Nat → Int32) × (List Int32) × (List Int32) => [(h0, oX10 tby (nI kt) tln tsp (CKD fby kt u.1) (nI u.1) (nI (TKE fby kt u.1)) u.2.1), (tby, iA G 240 fby), (tsp, oX8 120 1 tspc (nI u.2.2.1)), (tspc, iA G 120 u.2.2.2.1)])
set_option maxHeartbeats 4000000 in
set_option maxRecDepth 100000 in
theorem t_all (l : Launch) (G : GG) (K : OO) (mn : Nat) (h0 : Nat) (jo : Nat) (tby : Nat) (kt : Nat) (tln : Nat) (tsp : Nat) (ks : Nat) (tf9 : Int32) (fby : Nat → Int32) (tspc : Nat) (ksp : Nat) (ftsp : Nat → Int32) (cs : List Int32) (rs : List Int32) (hkt : kt ≤ 240) (hks : ks ≤ kt) (hBB : BNN fby kt) (hST : STP ksp ftsp cs) (h3s : 3 * ksp ≤ ks) (hjm : jo + mn = 4) (ihC : ∀ m9, m9 < mn → ∀ (h0 : Nat) (jo : Nat) (tby : Nat) (kt : Nat) (tln : Nat) (tsp : Nat) (ks : Nat) (tf9 : Int32) (fby : Nat → Int32) (tspc : Nat) (ksp : Nat) (ftsp : Nat → Int32) (cs : List Int32) (rs : List Int32) (hkt : kt ≤ 240) (hks : ks ≤ kt) (hBB : BNN fby kt) (hST : STP ksp ftsp cs) (h3s : 3 * ksp ≤ ks) (hjm : jo + m9 = 4), MIo l G K yX10_takesCond cX10_takesCond 3 (some .boolean) (11 + 4 * m9) 0 0 [.ref h0, .int (nI jo)] [(h0, oX10 tby (nI kt) tln tsp (CKD fby kt ks) (nI ks) (nI (TKE fby kt ks)) tf9), (tby, iA G 240 fby), (tsp, oX8 120 1 tspc (nI ksp)), (tspc, iA G 120 ftsp)] (fun (r : Int32) (u : Nat × Int32 × Nat × (Nat → Int32) × (List Int32) × (List Int32)) => ((r = 1 ∧ RT fby kt 2 jo 0 ks cs rs (1, u.1, u.2.2.2.2.1, u.2.2.2.2.2) ∧ STP u.2.2.1 u.2.2.2.1 u.2.2.2.2.1 ∧ tf9 = u.2.1) ∨ (r = 0 ∧ RT fby kt 2 jo 0 ks cs rs (0, u.1, [], []) ∧ nI u.1 = u.2.1 ∧ u.1 ≤ kt ∧ u.2.2.1 ≤ 120))) (fun u : Nat × Int32 × Nat × (Nat → Int32) × (List Int32) × (List Int32) => [(h0, oX10 tby (nI kt) tln tsp (CKD fby kt u.1) (nI u.1) (nI (TKE fby kt u.1)) u.2.1), (tby, iA G 240 fby), (tsp, oX8 120 1 tspc (nI u.2.2.1)), (tspc, iA G 120 u.2.2.2.1)])) : K_t_all l G K mn h0 jo tby kt tln tsp ks tf9 fby tspc ksp ftsp cs rs := by
  refine MIo.start (by decide +kernel) (Nat.le_of_ble_eq_true rfl) ?_
  intro p e s m below meth c A ls hC hK hP hD hS hA hl hO
  refine absQ (fun Q0 hQ0 => ?_)
  have hl : lv_has ls 3 [(0, .ref h0), (1, .int (nI jo))] := hl
  refine Kan8 hC (fun hx hb hr hml hB hown hlocks hnm => ?_)
  have tk0 := TKE.ge (bt := fby) (n := kt) (s := ks) hks
  have hs1 := hST.1
  refine lv_aload_n hx hb gX10_takesAll_0.1 rfl (lv_at0 hl) ?_
  refine lv_iload_n hx hb gX10_takesAll_0.2.1 rfl (lv_at1 hl) ?_
  refine iVo (wr := []) hO hC hK hl hP hD hS hA (t_one l G K mn h0 jo tby kt tln tsp ks tf9 fby tspc ksp ftsp cs rs (by omega) (by omega) (hBB) (hST) (by omega) (by omega) ihC) si_X10_155 [0, 1, 2, 3] [] sm_0_1_2_3 fm_0_1_2_3 nd_0_1_2_3 rfl rfl (by decide) rfl rfl rfl rfl rfl (Nat.le_of_ble_eq_true rfl) ⟨by simp only [RM]; omega, by simp only [RM]; omega⟩ ⟨Nat.le_of_ble_eq_true rfl, Nat.le_of_ble_eq_true rfl⟩ gX10_takesAll_0.2.2.1 (fun r3005 => Ktu6 fun ks13007 tf13008 ksp13009 gtsp3010 c13011 r13012 => ?_)
  intro H locs hr3005 hP hD hS
  try dsimp only at hr3005
  refine Kpdr (ws := [(h0, oX10 tby (nI kt) tln tsp (CKD fby kt ks13007) (nI ks13007) (nI (TKE fby kt ks13007)) tf13008), (tby, iA G 240 fby), (tsp, oX8 120 1 tspc (nI ksp13009)), (tspc, iA G 120 gtsp3010)]) hP hD (fun hP hD => ?_)
  rcases hr3005 with ⟨rfl, a3013⟩ | ⟨rfl, a3013⟩
  · obtain ⟨hq3014, hq3015, rfl⟩ := a3013
    have xl3016 := RT.len hq3014 (by decide) (by omega)
    have xl3017 := hq3015.1
    refine lv_if_ne (tgt := 10) hx hb gX10_takesAll_0.2.2.2.1 (by decide) (fun _ => ?_) (fun c9 => absurd c9 (by decide))
    refine lv_iconst (v := 0) hx hb gX10_takesAll_0.2.2.2.2.2.2.1 (by decide) ?_
    refine lv_istore_n (lv' := [(2, .int 0), (0, .ref h0), (1, .int (nI jo))]) hx hb gX10_takesAll_0.2.2.2.2.2.2.2.1 rfl hl (by decide) rfl (fun ls hl => ?_)
    have keyP : ∀ (nP : Nat) (vks : Nat) (vn : Nat) (vksp : Nat) (vtsp : Nat → Int32) (H : Heap) (locs : List Loc) (ls : Array Slot), (3 * vn ≤ vks ∧ 3 * vksp ≤ vks ∧ vks ≤ kt ∧ 241 ≤ vks + nP) → (RTW fby kt 1 jo ks cs rs 3 vks vksp vtsp) → va_PD G A [(h0, oX10 tby (nI kt) tln tsp (CKD fby kt vks) (nI vks) (nI (TKE fby kt vks)) tf9), (tby, iA G 240 fby), (tsp, oX8 120 1 tspc (nI vksp)), (tspc, iA G 120 vtsp)] H → va_S A s.heap H locs → lv_has ls 3 [(2, .int (nI vn)), (0, .ref h0), (1, .int (nI jo))] → W p l e (RM (10 + 4 * mn) 0 0) s m ([.ref h0, .int (nI jo)] : List Value).toArray below meth c H locs 0 0 Q0 (F0 m 12 ls []) := by
      intro nP
      induction nP with
      | zero =>
        intro vks vn vksp vtsp H locs ls hiP hrw hPD hS hl
        refine Kan2 hPD (fun hP hD => ?_)
        exact (show False by omega).elim
      | succ nP ihP =>
        intro vks vn vksp vtsp H locs ls hiP hrw hPD hS hl
        refine Kan2 hPD (fun hP hD => ?_)
        have tkv := TKE.ge (bt := fby) (n := kt) (s := vks) (by omega)
        obtain ⟨c9, q9, hst9, hco9⟩ := hrw
        have hsl9 := hst9.1
        refine lv_iload_n hx hb gX10_takesAll_0.2.2.2.2.2.2.2.2.1 rfl (lv_at0 hl) ?_
        refine lv_sipush (v := 240) hx hb gX10_takesAll_0.2.2.2.2.2.2.2.2.2 (by decide) ?_
        refine lv_icmp_ge (tgt := 54) hx hb gX10_takesAll_1.1 (by decide) (fun c9 => absurd c9 (nI_ge (a := vn) (b := 240) (by omega) (by omega))) (fun _ => ?_)
        refine lv_aload_n hx hb gX10_takesAll_1.2.1 rfl (lv_at1 hl) ?_
        refine va_ldcS (index := 158) (tx := "and") hx hb hown (hO.2.1 9 (by decide)) gX10_takesAll_1.2.2.1 ?_
        refine pVo hO hS hC hK hl hP hD (t_isName l G K 9 h0 tby kt tln tsp vks tf9 fby (hkt) (by omega) (hBB) ((by decide))) si_X10_102 [0, 1] sm_0_1 fm_0_1 nd_0_1 rfl rfl rfl rfl rfl (Nat.le_of_ble_eq_true rfl) (rmT (Nat.le_of_ble_eq_true rfl) (Nat.le_of_ble_eq_true rfl)) ⟨by first | exact Nat.le_of_ble_eq_true rfl | exact Nat.zero_le _, by first | exact Nat.le_of_ble_eq_true rfl | exact Nat.zero_le _⟩ gX10_takesAll_1.2.2.2.1 (Kors (Keqa fun a3019 => ?_) (Keqa fun a3019 => ?_))
        · have hq3020 := a3019
          have xl3021 : vks + 3 ≤ NXT fby kt vks ∧ NXT fby kt vks ≤ kt := WRD.len hq3020 (by omega)
          refine lv_if_eq (tgt := 54) hx hb gX10_takesAll_1.2.2.2.2.1 (by decide) (fun c9 => absurd c9 (by decide)) (fun _ => ?_)
          refine lv_aload_n hx hb gX10_takesAll_1.2.2.2.2.2.1 rfl (lv_at1 hl) ?_
          refine vV (wr := [(tsp, oX8 120 1 tspc (nI vksp)), (tspc, iA G 120 vtsp)]) hC hK hl hP hD hS hA (t_advT l G h0 tby kt tln tsp vks tf9 fby (hkt) (by omega) (hBB)) si_X10_47 [0, 1] [2, 3] sm_0_1 fm_0_1 nd_0_1 sm_2_3 nd_2_3 dj_0_1__2_3 rfl rfl rfl rfl rfl (Nat.le_of_ble_eq_true rfl) (rmT (Nat.le_of_ble_eq_true rfl) (Nat.le_of_ble_eq_true rfl)) ⟨Nat.le_of_ble_eq_true rfl, Nat.le_of_ble_eq_true rfl⟩ gX10_takesAll_1.2.2.2.2.2.2.1 (fun u3023 H locs hr3022 hP hD hS => ?_)
          refine Kpdr (ws := [(tsp, oX8 120 1 tspc (nI vksp)), (tspc, iA G 120 vtsp), (h0, oX10 tby (nI kt) tln tsp (CKD fby kt (NXT fby kt vks)) (nI (NXT fby kt vks)) (nI (TKE fby kt (NXT fby kt vks))) tf9), (tby, iA G 240 fby)]) hP hD (fun hP hD => ?_)
          have xn3024 := NXT.ge (bt := fby) (n := kt) (s := vks) (by omega)
          refine lv_aload_n hx hb gX10_takesAll_1.2.2.2.2.2.2.2.1 rfl (lv_at1 hl) ?_
          refine lv_iload_n hx hb gX10_takesAll_1.2.2.2.2.2.2.2.2.1 rfl (lv_at2 hl) ?_
          refine iVo (wr := []) hO hC hK hl hP hD hS hA (t_one l G K mn h0 jo tby kt tln tsp (NXT fby kt vks) tf9 fby tspc vksp vtsp c9 q9 (by omega) (by omega) (hBB) (hst9) (by omega) (by omega) ihC) si_X10_155 [2, 3, 0, 1] [] sm_2_3_0_1 fm_2_3_0_1 nd_2_3_0_1 rfl rfl (by decide) rfl rfl rfl rfl rfl (Nat.le_of_ble_eq_true rfl) ⟨by simp only [RM]; omega, by simp only [RM]; omega⟩ ⟨Nat.le_of_ble_eq_true rfl, Nat.le_of_ble_eq_true rfl⟩ gX10_takesAll_1.2.2.2.2.2.2.2.2.2 (fun r3025 => Ktu6 fun ks13027 tf13028 ksp13029 gtsp3030 c13031 r13032 => ?_)
          intro H locs hr3025 hP hD hS
          try dsimp only at hr3025
          refine Kpdr (ws := [(h0, oX10 tby (nI kt) tln tsp (CKD fby kt ks13027) (nI ks13027) (nI (TKE fby kt ks13027)) tf13028), (tby, iA G 240 fby), (tsp, oX8 120 1 tspc (nI ksp13029)), (tspc, iA G 120 gtsp3030)]) hP hD (fun hP hD => ?_)
          rcases hr3025 with ⟨rfl, a3033⟩ | ⟨rfl, a3033⟩
          · obtain ⟨hq3034, hq3035, rfl⟩ := a3033
            have xl3036 := RT.len hq3034 (by decide) (by omega)
            have xl3037 := hq3035.1
            refine lv_if_ne (tgt := 42) hx hb gX10_takesAll_2.1 (by decide) (fun _ => ?_) (fun c9 => absurd c9 (by decide))
            refine lv_aload_n hx hb gX10_takesAll_2.2.2.2.1 rfl (lv_at1 hl) ?_
            refine lv_bipush (v := (-2)) hx hb gX10_takesAll_2.2.2.2.2.1 (by decide) ?_
            refine vV (wr := [(tby, iA G 240 fby)]) hC hK hl hP hD hS hA (t_addStep l G h0 (-2) tby kt tln tsp (CKD fby kt ks13027) ks13027 (TKE fby kt ks13027) tf9 tspc ksp13029 gtsp3030 (by omega)) si_X10_152 [0, 2, 3] [1] sm_0_2_3 fm_0_2_3 nd_0_2_3 sm_1 nd_1 dj_0_2_3__1 rfl rfl rfl rfl rfl (Nat.le_of_ble_eq_true rfl) (rmT (Nat.le_of_ble_eq_true rfl) (Nat.le_of_ble_eq_true rfl)) ⟨Nat.le_of_ble_eq_true rfl, Nat.le_of_ble_eq_true rfl⟩ gX10_takesAll_2.2.2.2.2.2.1 (fun u3039 H locs hr3038 hP hD hS => ?_)
            refine Kpdr (ws := [(tby, iA G 240 fby), (h0, oX10 tby (nI kt) tln tsp (CKD fby kt ks13027) (nI ks13027) (nI (TKE fby kt ks13027)) tf9), (tsp, oX8 120 1 tspc (nI (ksp13029 + 1))), (tspc, iA G 120 (upd gtsp3030 ksp13029 (-2)))]) hP hD (fun hP hD => ?_)
            refine lv_iinc (v := nI (vn + 1)) (lv' := [(2, .int (nI (vn + 1))), (0, .ref h0), (1, .int (nI jo))]) hx hb gX10_takesAll_2.2.2.2.2.2.2.1 hl (k := 0) rfl (nI_1 _) (by decide) rfl (fun ls hl => ?_)
            refine lv_goto (tgt := 12) hx hb gX10_takesAll_2.2.2.2.2.2.2.2.1 (by decide) ?_
            refine Kpds (ws' := [(h0, oX10 tby (nI kt) tln tsp (CKD fby kt ks13027) (nI ks13027) (nI (TKE fby kt ks13027)) tf9), (tby, iA G 240 fby), (tsp, oX8 120 1 tspc (nI (ksp13029 + 1))), (tspc, iA G 120 (upd gtsp3030 ksp13029 (-2)))]) hP hD [1, 0, 2, 3] fm_1_0_2_3 nd_1_0_2_3 sm_1_0_2_3 (fun hP hD => ?_)
            exact ihP ks13027 (vn + 1) (ksp13029 + 1) (upd gtsp3030 ksp13029 (-2)) _ _ _ (by omega) (⟨_, _, STP.push hq3035, fun r h9 => hco9 r (RT.andG hq3020 hq3034 h9)⟩) (And.intro hP hD) hS (lv_sub hl [0, 1, 2] rfl)
          · obtain ⟨hq3040, rfl, hq3041, hq3042⟩ := a3033
            refine lv_if_ne (tgt := 42) hx hb gX10_takesAll_2.1 (by decide) (fun c9 => absurd (by decide) c9) (fun _ => ?_)
            refine lv_iconst (v := 0) hx hb gX10_takesAll_2.2.1 (by decide) ?_
            refine toQ hQ0 ?_
            exact RI (v := 0) hC hP hD hS [0, 1, 2, 3] (ks13027, nI ks13027, ksp13029, gtsp3030, [], []) rfl rfl (by decide) (Or.inr ⟨rfl, hco9 _ (RT.andF hq3020 hq3040 rfl), rfl, by (try dsimp only); omega, by (try dsimp only); omega⟩) (by decide +kernel) gX10_takesAll_2.2.2.1
        · have hq3043 := a3019
          refine lv_if_eq (tgt := 54) hx hb gX10_takesAll_1.2.2.2.2.1 (by decide) (fun _ => ?_) (fun c9 => absurd (by decide) c9)
          refine lv_iconst (v := 1) hx hb gX10_takesAll_2.2.2.2.2.2.2.2.2.1 (by decide) ?_
          refine toQ hQ0 ?_
          exact RI (v := 1) hC hP hD hS [0, 1, 2, 3] (vks, tf9, vksp, vtsp, c9, q9) rfl rfl (by decide) (Or.inl ⟨rfl, hco9 _ (RT.andE hq3043), hst9, rfl⟩) (by decide +kernel) gX10_takesAll_2.2.2.2.2.2.2.2.2.2
    exact keyP 241 ks13007 0 ksp13009 gtsp3010 _ _ _ (by omega) (⟨c13011, r13012, hq3015, fun _ h9 => RT.allG hq3014 h9⟩) (And.intro hP hD) hS (lv_sub hl [0, 1, 2] rfl)
  · obtain ⟨hq3044, rfl, hq3045, hq3046⟩ := a3013
    refine lv_if_ne (tgt := 10) hx hb gX10_takesAll_0.2.2.2.1 (by decide) (fun c9 => absurd (by decide) c9) (fun _ => ?_)
    refine lv_iconst (v := 0) hx hb gX10_takesAll_0.2.2.2.2.1 (by decide) ?_
    refine toQ hQ0 ?_
    exact RI (v := 0) hC hP hD hS [0, 1, 2, 3] (ks13007, nI ks13007, ksp13009, gtsp3010, [], []) rfl rfl (by decide) (Or.inr ⟨rfl, RT.allF hq3044 rfl, rfl, by (try dsimp only); omega, by (try dsimp only); omega⟩) (by decide +kernel) gX10_takesAll_0.2.2.2.2.2.1
def K_t_cond_step (l : Launch) (G : GG) (K : OO) (mn : Nat) (h0 : Nat) (jo : Nat) (tby : Nat) (kt : Nat) (tln : Nat) (tsp : Nat) (ks : Nat) (tf9 : Int32) (fby : Nat → Int32) (tspc : Nat) (ksp : Nat) (ftsp : Nat → Int32) (cs : List Int32) (rs : List Int32) : Prop := MIo l G K yX10_takesCond cX10_takesCond 3 (some .boolean) (11 + 4 * mn) 0 0 [.ref h0, .int (nI jo)] [(h0, oX10 tby (nI kt) tln tsp (CKD fby kt ks) (nI ks) (nI (TKE fby kt ks)) tf9), (tby, iA G 240 fby), (tsp, oX8 120 1 tspc (nI ksp)), (tspc, iA G 120 ftsp)] (fun (r : Int32) (u : Nat × Int32 × Nat × (Nat → Int32) × (List Int32) × (List Int32)) => ((r = 1 ∧ RT fby kt 2 jo 0 ks cs rs (1, u.1, u.2.2.2.2.1, u.2.2.2.2.2) ∧ STP u.2.2.1 u.2.2.2.1 u.2.2.2.2.1 ∧ tf9 = u.2.1) ∨ (r = 0 ∧ RT fby kt 2 jo 0 ks cs rs (0, u.1, [], []) ∧ nI u.1 = u.2.1 ∧ u.1 ≤ kt ∧ u.2.2.1 ≤ 120))) (fun u : Nat × Int32 × Nat × (Nat → Int32) × (List Int32) × (List Int32) => [(h0, oX10 tby (nI kt) tln tsp (CKD fby kt u.1) (nI u.1) (nI (TKE fby kt u.1)) u.2.1), (tby, iA G 240 fby), (tsp, oX8 120 1 tspc (nI u.2.2.1)), (tspc, iA G 120 u.2.2.2.1)])
set_option maxHeartbeats 4000000 in
set_option maxRecDepth 100000 in
theorem t_cond_step (l : Launch) (G : GG) (K : OO) (mn : Nat) (h0 : Nat) (jo : Nat) (tby : Nat) (kt : Nat) (tln : Nat) (tsp : Nat) (ks : Nat) (tf9 : Int32) (fby : Nat → Int32) (tspc : Nat) (ksp : Nat) (ftsp : Nat → Int32) (cs : List Int32) (rs : List Int32) (hkt : kt ≤ 240) (hks : ks ≤ kt) (hBB : BNN fby kt) (hST : STP ksp ftsp cs) (h3s : 3 * ksp ≤ ks) (hjm : jo + mn = 4) (ihC : ∀ m9, m9 < mn → ∀ (h0 : Nat) (jo : Nat) (tby : Nat) (kt : Nat) (tln : Nat) (tsp : Nat) (ks : Nat) (tf9 : Int32) (fby : Nat → Int32) (tspc : Nat) (ksp : Nat) (ftsp : Nat → Int32) (cs : List Int32) (rs : List Int32) (hkt : kt ≤ 240) (hks : ks ≤ kt) (hBB : BNN fby kt) (hST : STP ksp ftsp cs) (h3s : 3 * ksp ≤ ks) (hjm : jo + m9 = 4), MIo l G K yX10_takesCond cX10_takesCond 3 (some .boolean) (11 + 4 * m9) 0 0 [.ref h0, .int (nI jo)] [(h0, oX10 tby (nI kt) tln tsp (CKD fby kt ks) (nI ks) (nI (TKE fby kt ks)) tf9), (tby, iA G 240 fby), (tsp, oX8 120 1 tspc (nI ksp)), (tspc, iA G 120 ftsp)] (fun (r : Int32) (u : Nat × Int32 × Nat × (Nat → Int32) × (List Int32) × (List Int32)) => ((r = 1 ∧ RT fby kt 2 jo 0 ks cs rs (1, u.1, u.2.2.2.2.1, u.2.2.2.2.2) ∧ STP u.2.2.1 u.2.2.2.1 u.2.2.2.2.1 ∧ tf9 = u.2.1) ∨ (r = 0 ∧ RT fby kt 2 jo 0 ks cs rs (0, u.1, [], []) ∧ nI u.1 = u.2.1 ∧ u.1 ≤ kt ∧ u.2.2.1 ≤ 120))) (fun u : Nat × Int32 × Nat × (Nat → Int32) × (List Int32) × (List Int32) => [(h0, oX10 tby (nI kt) tln tsp (CKD fby kt u.1) (nI u.1) (nI (TKE fby kt u.1)) u.2.1), (tby, iA G 240 fby), (tsp, oX8 120 1 tspc (nI u.2.2.1)), (tspc, iA G 120 u.2.2.2.1)])) : K_t_cond_step l G K mn h0 jo tby kt tln tsp ks tf9 fby tspc ksp ftsp cs rs := by
  refine MIo.start (by decide +kernel) (Nat.le_of_ble_eq_true rfl) ?_
  intro p e s m below meth c A ls hC hK hP hD hS hA hl hO
  refine absQ (fun Q0 hQ0 => ?_)
  have hl : lv_has ls 3 [(0, .ref h0), (1, .int (nI jo))] := hl
  refine Kan8 hC (fun hx hb hr hml hB hown hlocks hnm => ?_)
  have tk0 := TKE.ge (bt := fby) (n := kt) (s := ks) hks
  have hs1 := hST.1
  refine lv_aload_n hx hb gX10_takesCond_0.1 rfl (lv_at0 hl) ?_
  refine lv_iload_n hx hb gX10_takesCond_0.2.1 rfl (lv_at1 hl) ?_
  refine iVo (wr := []) hO hC hK hl hP hD hS hA (t_all l G K mn h0 jo tby kt tln tsp ks tf9 fby tspc ksp ftsp cs rs (by omega) (by omega) (hBB) (hST) (by omega) (by omega) ihC) si_X10_147 [0, 1, 2, 3] [] sm_0_1_2_3 fm_0_1_2_3 nd_0_1_2_3 rfl rfl (by decide) rfl rfl rfl rfl rfl (Nat.le_of_ble_eq_true rfl) ⟨by simp only [RM]; omega, by simp only [RM]; omega⟩ ⟨Nat.le_of_ble_eq_true rfl, Nat.le_of_ble_eq_true rfl⟩ gX10_takesCond_0.2.2.1 (fun r3047 => Ktu6 fun ks13049 tf13050 ksp13051 gtsp3052 c13053 r13054 => ?_)
  intro H locs hr3047 hP hD hS
  try dsimp only at hr3047
  refine Kpdr (ws := [(h0, oX10 tby (nI kt) tln tsp (CKD fby kt ks13049) (nI ks13049) (nI (TKE fby kt ks13049)) tf13050), (tby, iA G 240 fby), (tsp, oX8 120 1 tspc (nI ksp13051)), (tspc, iA G 120 gtsp3052)]) hP hD (fun hP hD => ?_)
  rcases hr3047 with ⟨rfl, a3055⟩ | ⟨rfl, a3055⟩
  · obtain ⟨hq3056, hq3057, rfl⟩ := a3055
    have xl3058 := RT.len hq3056 (by decide) (by omega)
    have xl3059 := hq3057.1
    refine lv_if_ne (tgt := 10) hx hb gX10_takesCond_0.2.2.2.1 (by decide) (fun _ => ?_) (fun c9 => absurd c9 (by decide))
    refine lv_iconst (v := 0) hx hb gX10_takesCond_0.2.2.2.2.2.2.1 (by decide) ?_
    refine lv_istore_n (lv' := [(2, .int 0), (0, .ref h0), (1, .int (nI jo))]) hx hb gX10_takesCond_0.2.2.2.2.2.2.2.1 rfl hl (by decide) rfl (fun ls hl => ?_)
    have keyP : ∀ (nP : Nat) (vks : Nat) (vn : Nat) (vksp : Nat) (vtsp : Nat → Int32) (H : Heap) (locs : List Loc) (ls : Array Slot), (3 * vn ≤ vks ∧ 3 * vksp ≤ vks ∧ vks ≤ kt ∧ 241 ≤ vks + nP) → (RTW fby kt 2 jo ks cs rs 4 vks vksp vtsp) → va_PD G A [(h0, oX10 tby (nI kt) tln tsp (CKD fby kt vks) (nI vks) (nI (TKE fby kt vks)) tf9), (tby, iA G 240 fby), (tsp, oX8 120 1 tspc (nI vksp)), (tspc, iA G 120 vtsp)] H → va_S A s.heap H locs → lv_has ls 3 [(2, .int (nI vn)), (0, .ref h0), (1, .int (nI jo))] → W p l e (RM (11 + 4 * mn) 0 0) s m ([.ref h0, .int (nI jo)] : List Value).toArray below meth c H locs 0 0 Q0 (F0 m 12 ls []) := by
      intro nP
      induction nP with
      | zero =>
        intro vks vn vksp vtsp H locs ls hiP hrw hPD hS hl
        refine Kan2 hPD (fun hP hD => ?_)
        exact (show False by omega).elim
      | succ nP ihP =>
        intro vks vn vksp vtsp H locs ls hiP hrw hPD hS hl
        refine Kan2 hPD (fun hP hD => ?_)
        have tkv := TKE.ge (bt := fby) (n := kt) (s := vks) (by omega)
        obtain ⟨c9, q9, hst9, hco9⟩ := hrw
        have hsl9 := hst9.1
        refine lv_iload_n hx hb gX10_takesCond_0.2.2.2.2.2.2.2.2.1 rfl (lv_at0 hl) ?_
        refine lv_sipush (v := 240) hx hb gX10_takesCond_0.2.2.2.2.2.2.2.2.2 (by decide) ?_
        refine lv_icmp_ge (tgt := 54) hx hb gX10_takesCond_1.1 (by decide) (fun c9 => absurd c9 (nI_ge (a := vn) (b := 240) (by omega) (by omega))) (fun _ => ?_)
        refine lv_aload_n hx hb gX10_takesCond_1.2.1 rfl (lv_at1 hl) ?_
        refine va_ldcS (index := 150) (tx := "o\x72") hx hb hown (hO.2.1 8 (by decide)) gX10_takesCond_1.2.2.1 ?_
        refine pVo hO hS hC hK hl hP hD (t_isName l G K 8 h0 tby kt tln tsp vks tf9 fby (hkt) (by omega) (hBB) ((by decide))) si_X10_102 [0, 1] sm_0_1 fm_0_1 nd_0_1 rfl rfl rfl rfl rfl (Nat.le_of_ble_eq_true rfl) (rmT (Nat.le_of_ble_eq_true rfl) (Nat.le_of_ble_eq_true rfl)) ⟨by first | exact Nat.le_of_ble_eq_true rfl | exact Nat.zero_le _, by first | exact Nat.le_of_ble_eq_true rfl | exact Nat.zero_le _⟩ gX10_takesCond_1.2.2.2.1 (Kors (Keqa fun a3061 => ?_) (Keqa fun a3061 => ?_))
        · have hq3062 := a3061
          have xl3063 : vks + 2 ≤ NXT fby kt vks ∧ NXT fby kt vks ≤ kt := WRD.len hq3062 (by omega)
          refine lv_if_eq (tgt := 54) hx hb gX10_takesCond_1.2.2.2.2.1 (by decide) (fun c9 => absurd c9 (by decide)) (fun _ => ?_)
          refine lv_aload_n hx hb gX10_takesCond_1.2.2.2.2.2.1 rfl (lv_at1 hl) ?_
          refine vV (wr := [(tsp, oX8 120 1 tspc (nI vksp)), (tspc, iA G 120 vtsp)]) hC hK hl hP hD hS hA (t_advT l G h0 tby kt tln tsp vks tf9 fby (hkt) (by omega) (hBB)) si_X10_47 [0, 1] [2, 3] sm_0_1 fm_0_1 nd_0_1 sm_2_3 nd_2_3 dj_0_1__2_3 rfl rfl rfl rfl rfl (Nat.le_of_ble_eq_true rfl) (rmT (Nat.le_of_ble_eq_true rfl) (Nat.le_of_ble_eq_true rfl)) ⟨Nat.le_of_ble_eq_true rfl, Nat.le_of_ble_eq_true rfl⟩ gX10_takesCond_1.2.2.2.2.2.2.1 (fun u3065 H locs hr3064 hP hD hS => ?_)
          refine Kpdr (ws := [(tsp, oX8 120 1 tspc (nI vksp)), (tspc, iA G 120 vtsp), (h0, oX10 tby (nI kt) tln tsp (CKD fby kt (NXT fby kt vks)) (nI (NXT fby kt vks)) (nI (TKE fby kt (NXT fby kt vks))) tf9), (tby, iA G 240 fby)]) hP hD (fun hP hD => ?_)
          have xn3066 := NXT.ge (bt := fby) (n := kt) (s := vks) (by omega)
          refine lv_aload_n hx hb gX10_takesCond_1.2.2.2.2.2.2.2.1 rfl (lv_at1 hl) ?_
          refine lv_iload_n hx hb gX10_takesCond_1.2.2.2.2.2.2.2.2.1 rfl (lv_at2 hl) ?_
          refine iVo (wr := []) hO hC hK hl hP hD hS hA (t_all l G K mn h0 jo tby kt tln tsp (NXT fby kt vks) tf9 fby tspc vksp vtsp c9 q9 (by omega) (by omega) (hBB) (hst9) (by omega) (by omega) ihC) si_X10_147 [2, 3, 0, 1] [] sm_2_3_0_1 fm_2_3_0_1 nd_2_3_0_1 rfl rfl (by decide) rfl rfl rfl rfl rfl (Nat.le_of_ble_eq_true rfl) ⟨by simp only [RM]; omega, by simp only [RM]; omega⟩ ⟨Nat.le_of_ble_eq_true rfl, Nat.le_of_ble_eq_true rfl⟩ gX10_takesCond_1.2.2.2.2.2.2.2.2.2 (fun r3067 => Ktu6 fun ks13069 tf13070 ksp13071 gtsp3072 c13073 r13074 => ?_)
          intro H locs hr3067 hP hD hS
          try dsimp only at hr3067
          refine Kpdr (ws := [(h0, oX10 tby (nI kt) tln tsp (CKD fby kt ks13069) (nI ks13069) (nI (TKE fby kt ks13069)) tf13070), (tby, iA G 240 fby), (tsp, oX8 120 1 tspc (nI ksp13071)), (tspc, iA G 120 gtsp3072)]) hP hD (fun hP hD => ?_)
          rcases hr3067 with ⟨rfl, a3075⟩ | ⟨rfl, a3075⟩
          · obtain ⟨hq3076, hq3077, rfl⟩ := a3075
            have xl3078 := RT.len hq3076 (by decide) (by omega)
            have xl3079 := hq3077.1
            refine lv_if_ne (tgt := 42) hx hb gX10_takesCond_2.1 (by decide) (fun _ => ?_) (fun c9 => absurd c9 (by decide))
            refine lv_aload_n hx hb gX10_takesCond_2.2.2.2.1 rfl (lv_at1 hl) ?_
            refine lv_bipush (v := (-3)) hx hb gX10_takesCond_2.2.2.2.2.1 (by decide) ?_
            refine vV (wr := [(tby, iA G 240 fby)]) hC hK hl hP hD hS hA (t_addStep l G h0 (-3) tby kt tln tsp (CKD fby kt ks13069) ks13069 (TKE fby kt ks13069) tf9 tspc ksp13071 gtsp3072 (by omega)) si_X10_152 [0, 2, 3] [1] sm_0_2_3 fm_0_2_3 nd_0_2_3 sm_1 nd_1 dj_0_2_3__1 rfl rfl rfl rfl rfl (Nat.le_of_ble_eq_true rfl) (rmT (Nat.le_of_ble_eq_true rfl) (Nat.le_of_ble_eq_true rfl)) ⟨Nat.le_of_ble_eq_true rfl, Nat.le_of_ble_eq_true rfl⟩ gX10_takesCond_2.2.2.2.2.2.1 (fun u3081 H locs hr3080 hP hD hS => ?_)
            refine Kpdr (ws := [(tby, iA G 240 fby), (h0, oX10 tby (nI kt) tln tsp (CKD fby kt ks13069) (nI ks13069) (nI (TKE fby kt ks13069)) tf9), (tsp, oX8 120 1 tspc (nI (ksp13071 + 1))), (tspc, iA G 120 (upd gtsp3072 ksp13071 (-3)))]) hP hD (fun hP hD => ?_)
            refine lv_iinc (v := nI (vn + 1)) (lv' := [(2, .int (nI (vn + 1))), (0, .ref h0), (1, .int (nI jo))]) hx hb gX10_takesCond_2.2.2.2.2.2.2.1 hl (k := 0) rfl (nI_1 _) (by decide) rfl (fun ls hl => ?_)
            refine lv_goto (tgt := 12) hx hb gX10_takesCond_2.2.2.2.2.2.2.2.1 (by decide) ?_
            refine Kpds (ws' := [(h0, oX10 tby (nI kt) tln tsp (CKD fby kt ks13069) (nI ks13069) (nI (TKE fby kt ks13069)) tf9), (tby, iA G 240 fby), (tsp, oX8 120 1 tspc (nI (ksp13071 + 1))), (tspc, iA G 120 (upd gtsp3072 ksp13071 (-3)))]) hP hD [1, 0, 2, 3] fm_1_0_2_3 nd_1_0_2_3 sm_1_0_2_3 (fun hP hD => ?_)
            exact ihP ks13069 (vn + 1) (ksp13071 + 1) (upd gtsp3072 ksp13071 (-3)) _ _ _ (by omega) (⟨_, _, STP.push hq3077, fun r h9 => hco9 r (RT.orG hq3062 hq3076 h9)⟩) (And.intro hP hD) hS (lv_sub hl [0, 1, 2] rfl)
          · obtain ⟨hq3082, rfl, hq3083, hq3084⟩ := a3075
            refine lv_if_ne (tgt := 42) hx hb gX10_takesCond_2.1 (by decide) (fun c9 => absurd (by decide) c9) (fun _ => ?_)
            refine lv_iconst (v := 0) hx hb gX10_takesCond_2.2.1 (by decide) ?_
            refine toQ hQ0 ?_
            exact RI (v := 0) hC hP hD hS [0, 1, 2, 3] (ks13069, nI ks13069, ksp13071, gtsp3072, [], []) rfl rfl (by decide) (Or.inr ⟨rfl, hco9 _ (RT.orF hq3062 hq3082 rfl), rfl, by (try dsimp only); omega, by (try dsimp only); omega⟩) (by decide +kernel) gX10_takesCond_2.2.2.1
        · have hq3085 := a3061
          refine lv_if_eq (tgt := 54) hx hb gX10_takesCond_1.2.2.2.2.1 (by decide) (fun _ => ?_) (fun c9 => absurd (by decide) c9)
          refine lv_iconst (v := 1) hx hb gX10_takesCond_2.2.2.2.2.2.2.2.2.1 (by decide) ?_
          refine toQ hQ0 ?_
          exact RI (v := 1) hC hP hD hS [0, 1, 2, 3] (vks, tf9, vksp, vtsp, c9, q9) rfl rfl (by decide) (Or.inl ⟨rfl, hco9 _ (RT.orE hq3085), hst9, rfl⟩) (by decide +kernel) gX10_takesCond_2.2.2.2.2.2.2.2.2.2
    exact keyP 241 ks13049 0 ksp13051 gtsp3052 _ _ _ (by omega) (⟨c13053, r13054, hq3057, fun _ h9 => RT.conG hq3056 h9⟩) (And.intro hP hD) hS (lv_sub hl [0, 1, 2] rfl)
  · obtain ⟨hq3086, rfl, hq3087, hq3088⟩ := a3055
    refine lv_if_ne (tgt := 10) hx hb gX10_takesCond_0.2.2.2.1 (by decide) (fun c9 => absurd (by decide) c9) (fun _ => ?_)
    refine lv_iconst (v := 0) hx hb gX10_takesCond_0.2.2.2.2.1 (by decide) ?_
    refine toQ hQ0 ?_
    exact RI (v := 0) hC hP hD hS [0, 1, 2, 3] (ks13049, nI ks13049, ksp13051, gtsp3052, [], []) rfl rfl (by decide) (Or.inr ⟨rfl, RT.conF hq3086 rfl, rfl, by (try dsimp only); omega, by (try dsimp only); omega⟩) (by decide +kernel) gX10_takesCond_0.2.2.2.2.2.1
theorem t_cond (l : Launch) (G : GG) (K : OO) : ∀ (mn : Nat) (h0 : Nat) (jo : Nat) (tby : Nat) (kt : Nat) (tln : Nat) (tsp : Nat) (ks : Nat) (tf9 : Int32) (fby : Nat → Int32) (tspc : Nat) (ksp : Nat) (ftsp : Nat → Int32) (cs : List Int32) (rs : List Int32) (hkt : kt ≤ 240) (hks : ks ≤ kt) (hBB : BNN fby kt) (hST : STP ksp ftsp cs) (h3s : 3 * ksp ≤ ks) (hjm : jo + mn = 4), MIo l G K yX10_takesCond cX10_takesCond 3 (some .boolean) (11 + 4 * mn) 0 0 [.ref h0, .int (nI jo)] [(h0, oX10 tby (nI kt) tln tsp (CKD fby kt ks) (nI ks) (nI (TKE fby kt ks)) tf9), (tby, iA G 240 fby), (tsp, oX8 120 1 tspc (nI ksp)), (tspc, iA G 120 ftsp)] (fun (r : Int32) (u : Nat × Int32 × Nat × (Nat → Int32) × (List Int32) × (List Int32)) => ((r = 1 ∧ RT fby kt 2 jo 0 ks cs rs (1, u.1, u.2.2.2.2.1, u.2.2.2.2.2) ∧ STP u.2.2.1 u.2.2.2.1 u.2.2.2.2.1 ∧ tf9 = u.2.1) ∨ (r = 0 ∧ RT fby kt 2 jo 0 ks cs rs (0, u.1, [], []) ∧ nI u.1 = u.2.1 ∧ u.1 ≤ kt ∧ u.2.2.1 ≤ 120))) (fun u : Nat × Int32 × Nat × (Nat → Int32) × (List Int32) × (List Int32) => [(h0, oX10 tby (nI kt) tln tsp (CKD fby kt u.1) (nI u.1) (nI (TKE fby kt u.1)) u.2.1), (tby, iA G 240 fby), (tsp, oX8 120 1 tspc (nI u.2.2.1)), (tspc, iA G 120 u.2.2.2.1)]) := by
  intro mn
  induction mn using Nat.strongRecOn with
  | ind mn ih => exact fun h0 jo tby kt tln tsp ks tf9 fby tspc ksp ftsp cs rs hkt hks hBB hST h3s hjm => t_cond_step l G K mn h0 jo tby kt tln tsp ks tf9 fby tspc ksp ftsp cs rs hkt hks hBB hST h3s hjm ih
def K_t_sortHere (l : Launch) (G : GG) (K : OO) (h0 : Nat) (tby : Nat) (kt : Nat) (tln : Nat) (tsp : Nat) (ks : Nat) (tf9 : Int32) (fby : Nat → Int32) : Prop := MPo l G K yX10_sortHere cX10_sortHere 1 (some .int) 7 [.ref h0] [(h0, oX10 tby (nI kt) tln tsp (CKD fby kt ks) (nI ks) (nI (TKE fby kt ks)) tf9), (tby, iA G 240 fby)] (fun r : Int32 => (r = (-1) ∧ SRT fby kt ks = none) ∨ (r = 0 ∧ SRT fby kt ks = some 0) ∨ (r = 1 ∧ SRT fby kt ks = some 1) ∨ (r = 2 ∧ SRT fby kt ks = some 2) ∨ (r = 3 ∧ SRT fby kt ks = some 3))
set_option maxHeartbeats 4000000 in
set_option maxRecDepth 100000 in
theorem t_sortHere (l : Launch) (G : GG) (K : OO) (h0 : Nat) (tby : Nat) (kt : Nat) (tln : Nat) (tsp : Nat) (ks : Nat) (tf9 : Int32) (fby : Nat → Int32) (hkt : kt ≤ 240) (hks : ks ≤ kt) (hBB : BNN fby kt) : K_t_sortHere l G K h0 tby kt tln tsp ks tf9 fby := by
  refine MPo.start (by decide +kernel) (Nat.le_of_ble_eq_true rfl) ?_
  intro p e s m below meth c ls hC hK hP hD hl hO hS
  refine absQ (fun Q0 hQ0 => ?_)
  have hl : lv_has ls 1 [(0, .ref h0)] := hl
  refine Kan8 hC (fun hx hb hr hml hB hown hlocks hnm => ?_)
  refine lv_aload_n hx hb gX10_sortHere_0.1 rfl (lv_at0 hl) ?_
  refine va_ldcS (index := 127) (tx := "taken") hx hb hown (hO.2.1 1 (by decide)) gX10_sortHere_0.2.1 ?_
  refine pVo hO hS hC hK hl hP hD (t_isName l G K 1 h0 tby kt tln tsp ks tf9 fby (hkt) (hks) (hBB) ((by decide))) si_X10_102 [0, 1] sm_0_1 fm_0_1 nd_0_1 rfl rfl rfl rfl rfl (Nat.le_of_ble_eq_true rfl) rm_7_6_3 ⟨by first | exact Nat.le_of_ble_eq_true rfl | exact Nat.zero_le _, by first | exact Nat.le_of_ble_eq_true rfl | exact Nat.zero_le _⟩ gX10_sortHere_0.2.2.1 (Kors (Keqa fun a3090 => ?_) (Keqa fun a3090 => ?_))
  · have hq3091 := a3090
    have xl3092 : ks + 5 ≤ NXT fby kt ks ∧ NXT fby kt ks ≤ kt := WRD.len hq3091 (by omega)
    refine lv_if_eq (tgt := 11) hx hb gX10_sortHere_0.2.2.2.1 (by decide) (fun c9 => absurd c9 (by decide)) (fun _ => ?_)
    refine lv_iconst (v := 0) hx hb gX10_sortHere_0.2.2.2.2.1 (by decide) ?_
    refine toQ hQ0 ?_
    exact RP (v := 0) hC (Or.inr (Or.inl ⟨rfl, SRT.y (k := 0) (by decide) hq3091⟩)) rfl gX10_sortHere_0.2.2.2.2.2.1
  · have hq3093 := a3090
    refine lv_if_eq (tgt := 11) hx hb gX10_sortHere_0.2.2.2.1 (by decide) (fun _ => ?_) (fun c9 => absurd (by decide) c9)
    refine lv_aload_n hx hb gX10_sortHere_0.2.2.2.2.2.2.1 rfl (lv_at0 hl) ?_
    refine va_ldcS (index := 129) (tx := "warn") hx hb hown (hO.2.1 2 (by decide)) gX10_sortHere_0.2.2.2.2.2.2.2.1 ?_
    refine pVo hO hS hC hK hl hP hD (t_isName l G K 2 h0 tby kt tln tsp ks tf9 fby (hkt) (hks) (hBB) ((by decide))) si_X10_102 [0, 1] sm_0_1 fm_0_1 nd_0_1 rfl rfl rfl rfl rfl (Nat.le_of_ble_eq_true rfl) rm_7_6_3 ⟨by first | exact Nat.le_of_ble_eq_true rfl | exact Nat.zero_le _, by first | exact Nat.le_of_ble_eq_true rfl | exact Nat.zero_le _⟩ gX10_sortHere_0.2.2.2.2.2.2.2.2.1 (Kors (Keqa fun a3095 => ?_) (Keqa fun a3095 => ?_))
    · have hq3096 := a3095
      have xl3097 : ks + 4 ≤ NXT fby kt ks ∧ NXT fby kt ks ≤ kt := WRD.len hq3096 (by omega)
      refine lv_if_eq (tgt := 22) hx hb gX10_sortHere_0.2.2.2.2.2.2.2.2.2 (by decide) (fun c9 => absurd c9 (by decide)) (fun _ => ?_)
      refine lv_iconst (v := 1) hx hb gX10_sortHere_1.1 (by decide) ?_
      refine toQ hQ0 ?_
      exact RP (v := 1) hC (Or.inr (Or.inr (Or.inl ⟨rfl, SRT.y (k := 1) (by decide) hq3096⟩))) rfl gX10_sortHere_1.2.1
    · have hq3098 := a3095
      refine lv_if_eq (tgt := 22) hx hb gX10_sortHere_0.2.2.2.2.2.2.2.2.2 (by decide) (fun _ => ?_) (fun c9 => absurd (by decide) c9)
      refine lv_aload_n hx hb gX10_sortHere_1.2.2.1 rfl (lv_at0 hl) ?_
      refine va_ldcS (index := 131) (tx := "ask") hx hb hown (hO.2.1 3 (by decide)) gX10_sortHere_1.2.2.2.1 ?_
      refine pVo hO hS hC hK hl hP hD (t_isName l G K 3 h0 tby kt tln tsp ks tf9 fby (hkt) (hks) (hBB) ((by decide))) si_X10_102 [0, 1] sm_0_1 fm_0_1 nd_0_1 rfl rfl rfl rfl rfl (Nat.le_of_ble_eq_true rfl) rm_7_6_3 ⟨by first | exact Nat.le_of_ble_eq_true rfl | exact Nat.zero_le _, by first | exact Nat.le_of_ble_eq_true rfl | exact Nat.zero_le _⟩ gX10_sortHere_1.2.2.2.2.1 (Kors (Keqa fun a3100 => ?_) (Keqa fun a3100 => ?_))
      · have hq3101 := a3100
        have xl3102 : ks + 3 ≤ NXT fby kt ks ∧ NXT fby kt ks ≤ kt := WRD.len hq3101 (by omega)
        refine lv_if_eq (tgt := 33) hx hb gX10_sortHere_1.2.2.2.2.2.1 (by decide) (fun c9 => absurd c9 (by decide)) (fun _ => ?_)
        refine lv_iconst (v := 2) hx hb gX10_sortHere_1.2.2.2.2.2.2.1 (by decide) ?_
        refine toQ hQ0 ?_
        exact RP (v := 2) hC (Or.inr (Or.inr (Or.inr (Or.inl ⟨rfl, SRT.y (k := 2) (by decide) hq3101⟩)))) rfl gX10_sortHere_1.2.2.2.2.2.2.2.1
      · have hq3103 := a3100
        refine lv_if_eq (tgt := 33) hx hb gX10_sortHere_1.2.2.2.2.2.1 (by decide) (fun _ => ?_) (fun c9 => absurd (by decide) c9)
        refine lv_aload_n hx hb gX10_sortHere_1.2.2.2.2.2.2.2.2.1 rfl (lv_at0 hl) ?_
        refine va_ldcS (index := 133) (tx := "heard") hx hb hown (hO.2.1 4 (by decide)) gX10_sortHere_1.2.2.2.2.2.2.2.2.2 ?_
        refine pVo hO hS hC hK hl hP hD (t_isName l G K 4 h0 tby kt tln tsp ks tf9 fby (hkt) (hks) (hBB) ((by decide))) si_X10_102 [0, 1] sm_0_1 fm_0_1 nd_0_1 rfl rfl rfl rfl rfl (Nat.le_of_ble_eq_true rfl) rm_7_6_3 ⟨by first | exact Nat.le_of_ble_eq_true rfl | exact Nat.zero_le _, by first | exact Nat.le_of_ble_eq_true rfl | exact Nat.zero_le _⟩ gX10_sortHere_2.1 (Kors (Keqa fun a3105 => ?_) (Keqa fun a3105 => ?_))
        · have hq3106 := a3105
          have xl3107 : ks + 5 ≤ NXT fby kt ks ∧ NXT fby kt ks ≤ kt := WRD.len hq3106 (by omega)
          refine lv_if_eq (tgt := 46) hx hb gX10_sortHere_2.2.1 (by decide) (fun c9 => absurd c9 (by decide)) (fun _ => ?_)
          refine lv_iconst (v := 3) hx hb gX10_sortHere_2.2.2.1 (by decide) ?_
          refine lv_goto (tgt := 47) hx hb gX10_sortHere_2.2.2.2.1 (by decide) ?_
          refine toQ hQ0 ?_
          exact RP (v := 3) hC (Or.inr (Or.inr (Or.inr (Or.inr (⟨rfl, SRT.y (k := 3) (by decide) hq3106⟩))))) rfl gX10_sortHere_2.2.2.2.2.2
        · have hq3108 := a3105
          refine lv_if_eq (tgt := 46) hx hb gX10_sortHere_2.2.1 (by decide) (fun _ => ?_) (fun c9 => absurd (by decide) c9)
          refine lv_iconst (v := (-1)) hx hb gX10_sortHere_2.2.2.2.2.1 (by decide) ?_
          refine toQ hQ0 ?_
          exact RP (v := (-1)) hC (Or.inl ⟨rfl, SRT.n4 hq3093 hq3098 hq3103 hq3108⟩) rfl gX10_sortHere_2.2.2.2.2.2
def K_t_head0 (l : Launch) (G : GG) (K : OO) (h0 : Nat) (kl : Nat) (tby : Nat) (kt : Nat) (tln : Nat) (tsp : Nat) (ks : Nat) (tf9 : Int32) (fby : Nat → Int32) (tlnc : Nat) (kln : Nat) (ftln : Nat → Int32) : Prop := MIo l G K yX10_takesHead cX10_takesHead 3 (some .boolean) 8 0 0 [.ref h0, .int (nI kl), .int 0] [(h0, oX10 tby (nI kt) tln tsp (CKD fby kt ks) (nI ks) (nI (TKE fby kt ks)) tf9), (tby, iA G 240 fby), (tln, oX8 9 7 tlnc (nI kln)), (tlnc, iA G 63 ftln)] (fun (r : Int32) (u : Nat × Int32 × (Nat → Int32) × Int32 × Int32 × Int32) => ((r = 1 ∧ HDQ fby kt 0 ks (1, u.1, u.2.2.2.1, u.2.2.2.2.1, u.2.2.2.2.2) ∧ tf9 = u.2.1 ∧ HDW ftln u.2.2.1 (kl * 7) u.2.2.2.1 u.2.2.2.2.1 u.2.2.2.2.2) ∨ (r = 0 ∧ HDQ fby kt 0 ks (0, u.1, -9, -9, -9) ∧ nI u.1 = u.2.1 ∧ u.1 ≤ kt))) (fun u : Nat × Int32 × (Nat → Int32) × Int32 × Int32 × Int32 => [(h0, oX10 tby (nI kt) tln tsp (CKD fby kt u.1) (nI u.1) (nI (TKE fby kt u.1)) u.2.1), (tby, iA G 240 fby), (tln, oX8 9 7 tlnc (nI kln)), (tlnc, iA G 63 u.2.2.1)])
set_option maxHeartbeats 4000000 in
set_option maxRecDepth 100000 in
theorem t_head0 (l : Launch) (G : GG) (K : OO) (h0 : Nat) (kl : Nat) (tby : Nat) (kt : Nat) (tln : Nat) (tsp : Nat) (ks : Nat) (tf9 : Int32) (fby : Nat → Int32) (tlnc : Nat) (kln : Nat) (ftln : Nat → Int32) (hkt : kt ≤ 240) (hks : ks ≤ kt) (hBB : BNN fby kt) (hkl : kl < kln) (hkln : kln ≤ 9) (hH9 : HD9 ftln (kl * 7)) : K_t_head0 l G K h0 kl tby kt tln tsp ks tf9 fby tlnc kln ftln := by
  refine MIo.start (by decide +kernel) (Nat.le_of_ble_eq_true rfl) ?_
  intro p e s m below meth c A ls hC hK hP hD hS hA hl hO
  refine absQ (fun Q0 hQ0 => ?_)
  have hl : lv_has ls 3 [(0, .ref h0), (1, .int (nI kl)), (2, .int 0)] := hl
  refine Kan8 hC (fun hx hb hr hml hB hown hlocks hnm => ?_)
  have tk0 := TKE.ge (bt := fby) (n := kt) (s := ks) hks
  refine lv_iload_n hx hb gX10_takesHead_0.1 rfl (lv_at2 hl) ?_
  refine lv_tableIn (tgt := 28) hx hb gX10_takesHead_0.2.1 (by decide) (by decide) rfl (by decide) ?_
  refine lv_aload_n hx hb gX10_takesHead_0.2.2.1 rfl (lv_at0 hl) ?_
  refine lv_iload_n hx hb gX10_takesHead_0.2.2.2.1 rfl (lv_at1 hl) ?_
  refine lv_iconst (v := 1) hx hb gX10_takesHead_0.2.2.2.2.1 (by decide) ?_
  refine lv_bipush (v := 99) hx hb gX10_takesHead_0.2.2.2.2.2.1 (by decide) ?_
  refine iV (wr := []) hC hK hl hP hD hS hA (t_takesNumber l G h0 kl 1 99 tby kt tln tsp ks tf9 fby tlnc kln ftln (hkt) (hks) (hBB) (hkl) (hkln) (by omega) (by omega)) si_X10_135 [0, 1, 2, 3] [] sm_0_1_2_3 fm_0_1_2_3 nd_0_1_2_3 rfl rfl (by decide) rfl rfl rfl rfl rfl (Nat.le_of_ble_eq_true rfl) rm_8_4_5 ⟨Nat.le_of_ble_eq_true rfl, Nat.le_of_ble_eq_true rfl⟩ gX10_takesHead_0.2.2.2.2.2.2.1 (fun r3109 => Ktu3 fun ks13111 tf13112 gtln3113 => ?_)
  intro H locs hr3109 hP hD hS
  try dsimp only at hr3109
  refine Kpdr (ws := [(h0, oX10 tby (nI kt) tln tsp (CKD fby kt ks13111) (nI ks13111) (nI (TKE fby kt ks13111)) tf13112), (tby, iA G 240 fby), (tln, oX8 9 7 tlnc (nI kln)), (tlnc, iA G 63 gtln3113)]) hP hD (fun hP hD => ?_)
  rcases hr3109 with ⟨rfl, a3114⟩ | ⟨rfl, a3114⟩
  · obtain ⟨hq3115, rfl, rfl, rfl⟩ := a3114
    have xl3116 := NML.len hq3115 (by omega)
    refine lv_if_eq (tgt := 83) hx hb gX10_takesHead_0.2.2.2.2.2.2.2.1 (by decide) (fun c9 => absurd c9 (by decide)) (fun _ => ?_)
    refine lv_aload_n hx hb gX10_takesHead_0.2.2.2.2.2.2.2.2.1 rfl (lv_at0 hl) ?_
    refine va_ldcS (index := 138) (tx := "of") hx hb hown (hO.2.1 5 (by decide)) gX10_takesHead_0.2.2.2.2.2.2.2.2.2 ?_
    refine iVo (wr := [(tln, oX8 9 7 tlnc (nI kln)), (tlnc, iA G 63 (upd ftln (kl * 7 + 1) (nI (NVL fby kt ks))))]) hO hC hK hl hP hD hS hA (t_takesName l G K 5 h0 tby kt tln tsp (NXT fby kt ks) tf9 fby (hkt) (by omega) (hBB) ((by decide))) si_X10_140 [0, 1] [2, 3] sm_0_1 fm_0_1 nd_0_1 sm_2_3 nd_2_3 dj_0_1__2_3 rfl rfl rfl rfl rfl (Nat.le_of_ble_eq_true rfl) rm_8_7_2 ⟨Nat.le_of_ble_eq_true rfl, Nat.le_of_ble_eq_true rfl⟩ gX10_takesHead_1.1 (fun r3117 => Ktu2 fun ks13119 tf13120 => ?_)
    intro H locs hr3117 hP hD hS
    try dsimp only at hr3117
    refine Kpdr (ws := [(tln, oX8 9 7 tlnc (nI kln)), (tlnc, iA G 63 (upd ftln (kl * 7 + 1) (nI (NVL fby kt ks)))), (h0, oX10 tby (nI kt) tln tsp (CKD fby kt ks13119) (nI ks13119) (nI (TKE fby kt ks13119)) tf13120), (tby, iA G 240 fby)]) hP hD (fun hP hD => ?_)
    rcases hr3117 with ⟨rfl, a3121⟩ | ⟨rfl, a3121⟩
    · obtain ⟨hq3122, rfl, rfl⟩ := a3121
      have xl3123 : (NXT fby kt ks) + 2 ≤ NXT fby kt (NXT fby kt ks) ∧ NXT fby kt (NXT fby kt ks) ≤ kt := WRD.len hq3122 (by omega)
      refine lv_if_eq (tgt := 83) hx hb gX10_takesHead_1.2.1 (by decide) (fun c9 => absurd c9 (by decide)) (fun _ => ?_)
      refine lv_aload_n hx hb gX10_takesHead_1.2.2.1 rfl (lv_at0 hl) ?_
      refine lv_iload_n hx hb gX10_takesHead_1.2.2.2.1 rfl (lv_at1 hl) ?_
      refine lv_iconst (v := 2) hx hb gX10_takesHead_1.2.2.2.2.1 (by decide) ?_
      refine lv_bipush (v := 7) hx hb gX10_takesHead_1.2.2.2.2.2.1 (by decide) ?_
      refine iV (wr := []) hC hK hl hP hD hS hA (t_takesNumber l G h0 kl 2 7 tby kt tln tsp (NXT fby kt (NXT fby kt ks)) tf9 fby tlnc kln (upd ftln (kl * 7 + 1) (nI (NVL fby kt ks))) (hkt) (by omega) (hBB) (hkl) (hkln) (by omega) (by omega)) si_X10_135 [2, 3, 0, 1] [] sm_2_3_0_1 fm_2_3_0_1 nd_2_3_0_1 rfl rfl (by decide) rfl rfl rfl rfl rfl (Nat.le_of_ble_eq_true rfl) rm_8_4_5 ⟨Nat.le_of_ble_eq_true rfl, Nat.le_of_ble_eq_true rfl⟩ gX10_takesHead_1.2.2.2.2.2.2.1 (fun r3124 => Ktu3 fun ks13126 tf13127 gtln3128 => ?_)
      intro H locs hr3124 hP hD hS
      try dsimp only at hr3124
      refine Kpdr (ws := [(h0, oX10 tby (nI kt) tln tsp (CKD fby kt ks13126) (nI ks13126) (nI (TKE fby kt ks13126)) tf13127), (tby, iA G 240 fby), (tln, oX8 9 7 tlnc (nI kln)), (tlnc, iA G 63 gtln3128)]) hP hD (fun hP hD => ?_)
      rcases hr3124 with ⟨rfl, a3129⟩ | ⟨rfl, a3129⟩
      · obtain ⟨hq3130, rfl, rfl, rfl⟩ := a3129
        have xl3131 := NML.len hq3130 (by omega)
        refine lv_if_eq (tgt := 83) hx hb gX10_takesHead_1.2.2.2.2.2.2.2.1 (by decide) (fun c9 => absurd c9 (by decide)) (fun _ => ?_)
        refine lv_aload_n hx hb gX10_takesHead_1.2.2.2.2.2.2.2.2.1 rfl (lv_at0 hl) ?_
        refine va_ldcS (index := 143) (tx := "from") hx hb hown (hO.2.1 6 (by decide)) gX10_takesHead_1.2.2.2.2.2.2.2.2.2 ?_
        refine iVo (wr := [(tln, oX8 9 7 tlnc (nI kln)), (tlnc, iA G 63 (upd (upd ftln (kl * 7 + 1) (nI (NVL fby kt ks))) (kl * 7 + 2) (nI (NVL fby kt (NXT fby kt (NXT fby kt ks))))))]) hO hC hK hl hP hD hS hA (t_takesName l G K 6 h0 tby kt tln tsp (NXT fby kt (NXT fby kt (NXT fby kt ks))) tf9 fby (hkt) (by omega) (hBB) ((by decide))) si_X10_140 [0, 1] [2, 3] sm_0_1 fm_0_1 nd_0_1 sm_2_3 nd_2_3 dj_0_1__2_3 rfl rfl rfl rfl rfl (Nat.le_of_ble_eq_true rfl) rm_8_7_2 ⟨Nat.le_of_ble_eq_true rfl, Nat.le_of_ble_eq_true rfl⟩ gX10_takesHead_2.1 (fun r3132 => Ktu2 fun ks13134 tf13135 => ?_)
        intro H locs hr3132 hP hD hS
        try dsimp only at hr3132
        refine Kpdr (ws := [(tln, oX8 9 7 tlnc (nI kln)), (tlnc, iA G 63 (upd (upd ftln (kl * 7 + 1) (nI (NVL fby kt ks))) (kl * 7 + 2) (nI (NVL fby kt (NXT fby kt (NXT fby kt ks)))))), (h0, oX10 tby (nI kt) tln tsp (CKD fby kt ks13134) (nI ks13134) (nI (TKE fby kt ks13134)) tf13135), (tby, iA G 240 fby)]) hP hD (fun hP hD => ?_)
        rcases hr3132 with ⟨rfl, a3136⟩ | ⟨rfl, a3136⟩
        · obtain ⟨hq3137, rfl, rfl⟩ := a3136
          have xl3138 : (NXT fby kt (NXT fby kt (NXT fby kt ks))) + 4 ≤ NXT fby kt (NXT fby kt (NXT fby kt (NXT fby kt ks))) ∧ NXT fby kt (NXT fby kt (NXT fby kt (NXT fby kt ks))) ≤ kt := WRD.len hq3137 (by omega)
          refine lv_if_eq (tgt := 83) hx hb gX10_takesHead_2.2.1 (by decide) (fun c9 => absurd c9 (by decide)) (fun _ => ?_)
          refine lv_aload_n hx hb gX10_takesHead_2.2.2.1 rfl (lv_at0 hl) ?_
          refine lv_iload_n hx hb gX10_takesHead_2.2.2.2.1 rfl (lv_at1 hl) ?_
          refine lv_iconst (v := 3) hx hb gX10_takesHead_2.2.2.2.2.1 (by decide) ?_
          refine lv_bipush (v := 7) hx hb gX10_takesHead_2.2.2.2.2.2.1 (by decide) ?_
          refine iV (wr := []) hC hK hl hP hD hS hA (t_takesNumber l G h0 kl 3 7 tby kt tln tsp (NXT fby kt (NXT fby kt (NXT fby kt (NXT fby kt ks)))) tf9 fby tlnc kln (upd (upd ftln (kl * 7 + 1) (nI (NVL fby kt ks))) (kl * 7 + 2) (nI (NVL fby kt (NXT fby kt (NXT fby kt ks))))) (hkt) (by omega) (hBB) (hkl) (hkln) (by omega) (by omega)) si_X10_135 [2, 3, 0, 1] [] sm_2_3_0_1 fm_2_3_0_1 nd_2_3_0_1 rfl rfl (by decide) rfl rfl rfl rfl rfl (Nat.le_of_ble_eq_true rfl) rm_8_4_5 ⟨Nat.le_of_ble_eq_true rfl, Nat.le_of_ble_eq_true rfl⟩ gX10_takesHead_2.2.2.2.2.2.2.1 (fun r3139 => Ktu3 fun ks13141 tf13142 gtln3143 => ?_)
          intro H locs hr3139 hP hD hS
          try dsimp only at hr3139
          refine Kpdr (ws := [(h0, oX10 tby (nI kt) tln tsp (CKD fby kt ks13141) (nI ks13141) (nI (TKE fby kt ks13141)) tf13142), (tby, iA G 240 fby), (tln, oX8 9 7 tlnc (nI kln)), (tlnc, iA G 63 gtln3143)]) hP hD (fun hP hD => ?_)
          rcases hr3139 with ⟨rfl, a3144⟩ | ⟨rfl, a3144⟩
          · obtain ⟨hq3145, rfl, rfl, rfl⟩ := a3144
            have xl3146 := NML.len hq3145 (by omega)
            refine lv_if_eq (tgt := 83) hx hb gX10_takesHead_2.2.2.2.2.2.2.2.1 (by decide) (fun c9 => absurd c9 (by decide)) (fun _ => ?_)
            refine lv_iconst (v := 1) hx hb gX10_takesHead_2.2.2.2.2.2.2.2.2.1 (by decide) ?_
            refine lv_goto (tgt := 84) hx hb gX10_takesHead_2.2.2.2.2.2.2.2.2.2 (by decide) ?_
            refine toQ hQ0 ?_
            exact RI (v := 1) hC hP hD hS [0, 1, 2, 3] ((NXT fby kt (NXT fby kt (NXT fby kt (NXT fby kt (NXT fby kt ks))))), tf9, upd (upd (upd ftln (kl * 7 + 1) (nI (NVL fby kt ks))) (kl * 7 + 2) (nI (NVL fby kt (NXT fby kt (NXT fby kt ks))))) (kl * 7 + 3) (nI (NVL fby kt (NXT fby kt (NXT fby kt (NXT fby kt (NXT fby kt ks)))))), nI (NVL fby kt ks), nI (NVL fby kt (NXT fby kt (NXT fby kt ks))), nI (NVL fby kt (NXT fby kt (NXT fby kt (NXT fby kt (NXT fby kt ks)))))) rfl rfl (by decide) (Or.inl ⟨rfl, HDQ.t5 hq3115 hq3122 hq3130 hq3137 hq3145, rfl, HDW.w3⟩) (by decide +kernel) gX10_takesHead_3.2.1
          · obtain ⟨hq3147, rfl, rfl, rfl⟩ := a3144
            refine lv_if_eq (tgt := 83) hx hb gX10_takesHead_2.2.2.2.2.2.2.2.1 (by decide) (fun _ => ?_) (fun c9 => absurd (by decide) c9)
            refine lv_iconst (v := 0) hx hb gX10_takesHead_3.1 (by decide) ?_
            refine toQ hQ0 ?_
            exact RI (v := 0) hC hP hD hS [0, 1, 2, 3] ((NXT fby kt (NXT fby kt (NXT fby kt (NXT fby kt ks)))), nI (NXT fby kt (NXT fby kt (NXT fby kt (NXT fby kt ks)))), (upd (upd ftln (kl * 7 + 1) (nI (NVL fby kt ks))) (kl * 7 + 2) (nI (NVL fby kt (NXT fby kt (NXT fby kt ks))))), (-9), (-9), (-9)) rfl rfl (by decide) (Or.inr ⟨rfl, HDQ.t4 hq3115 hq3122 hq3130 hq3137 hq3147, rfl, by (try dsimp only); omega⟩) (by decide +kernel) gX10_takesHead_3.2.1
        · obtain ⟨hq3148, rfl, rfl⟩ := a3136
          refine lv_if_eq (tgt := 83) hx hb gX10_takesHead_2.2.1 (by decide) (fun _ => ?_) (fun c9 => absurd (by decide) c9)
          refine lv_iconst (v := 0) hx hb gX10_takesHead_3.1 (by decide) ?_
          refine toQ hQ0 ?_
          exact RI (v := 0) hC hP hD hS [2, 3, 0, 1] ((NXT fby kt (NXT fby kt (NXT fby kt ks))), nI (NXT fby kt (NXT fby kt (NXT fby kt ks))), upd (upd ftln (kl * 7 + 1) (nI (NVL fby kt ks))) (kl * 7 + 2) (nI (NVL fby kt (NXT fby kt (NXT fby kt ks)))), (-9), (-9), (-9)) rfl rfl (by decide) (Or.inr ⟨rfl, HDQ.t3 hq3115 hq3122 hq3130 hq3148, rfl, by (try dsimp only); omega⟩) (by decide +kernel) gX10_takesHead_3.2.1
      · obtain ⟨hq3149, rfl, rfl, rfl⟩ := a3129
        refine lv_if_eq (tgt := 83) hx hb gX10_takesHead_1.2.2.2.2.2.2.2.1 (by decide) (fun _ => ?_) (fun c9 => absurd (by decide) c9)
        refine lv_iconst (v := 0) hx hb gX10_takesHead_3.1 (by decide) ?_
        refine toQ hQ0 ?_
        exact RI (v := 0) hC hP hD hS [0, 1, 2, 3] ((NXT fby kt (NXT fby kt ks)), nI (NXT fby kt (NXT fby kt ks)), (upd ftln (kl * 7 + 1) (nI (NVL fby kt ks))), (-9), (-9), (-9)) rfl rfl (by decide) (Or.inr ⟨rfl, HDQ.t2 hq3115 hq3122 hq3149, rfl, by (try dsimp only); omega⟩) (by decide +kernel) gX10_takesHead_3.2.1
    · obtain ⟨hq3150, rfl, rfl⟩ := a3121
      refine lv_if_eq (tgt := 83) hx hb gX10_takesHead_1.2.1 (by decide) (fun _ => ?_) (fun c9 => absurd (by decide) c9)
      refine lv_iconst (v := 0) hx hb gX10_takesHead_3.1 (by decide) ?_
      refine toQ hQ0 ?_
      exact RI (v := 0) hC hP hD hS [2, 3, 0, 1] ((NXT fby kt ks), nI (NXT fby kt ks), upd ftln (kl * 7 + 1) (nI (NVL fby kt ks)), (-9), (-9), (-9)) rfl rfl (by decide) (Or.inr ⟨rfl, HDQ.t1 hq3115 hq3150, rfl, by (try dsimp only); omega⟩) (by decide +kernel) gX10_takesHead_3.2.1
  · obtain ⟨hq3151, rfl, rfl, rfl⟩ := a3114
    refine lv_if_eq (tgt := 83) hx hb gX10_takesHead_0.2.2.2.2.2.2.2.1 (by decide) (fun _ => ?_) (fun c9 => absurd (by decide) c9)
    refine lv_iconst (v := 0) hx hb gX10_takesHead_3.1 (by decide) ?_
    refine toQ hQ0 ?_
    exact RI (v := 0) hC hP hD hS [0, 1, 2, 3] (ks, nI ks, ftln, (-9), (-9), (-9)) rfl rfl (by decide) (Or.inr ⟨rfl, HDQ.a0 (so := 0) (M := 99) rfl hq3151, rfl, by (try dsimp only); omega⟩) (by decide +kernel) gX10_takesHead_3.2.1
def K_t_head1 (l : Launch) (G : GG) (K : OO) (h0 : Nat) (kl : Nat) (tby : Nat) (kt : Nat) (tln : Nat) (tsp : Nat) (ks : Nat) (tf9 : Int32) (fby : Nat → Int32) (tlnc : Nat) (kln : Nat) (ftln : Nat → Int32) : Prop := MIo l G K yX10_takesHead cX10_takesHead 3 (some .boolean) 8 0 0 [.ref h0, .int (nI kl), .int 1] [(h0, oX10 tby (nI kt) tln tsp (CKD fby kt ks) (nI ks) (nI (TKE fby kt ks)) tf9), (tby, iA G 240 fby), (tln, oX8 9 7 tlnc (nI kln)), (tlnc, iA G 63 ftln)] (fun (r : Int32) (u : Nat × Int32 × (Nat → Int32) × Int32 × Int32 × Int32) => ((r = 1 ∧ HDQ fby kt 1 ks (1, u.1, u.2.2.2.1, u.2.2.2.2.1, u.2.2.2.2.2) ∧ tf9 = u.2.1 ∧ HDW ftln u.2.2.1 (kl * 7) u.2.2.2.1 u.2.2.2.2.1 u.2.2.2.2.2) ∨ (r = 0 ∧ HDQ fby kt 1 ks (0, u.1, -9, -9, -9) ∧ nI u.1 = u.2.1 ∧ u.1 ≤ kt))) (fun u : Nat × Int32 × (Nat → Int32) × Int32 × Int32 × Int32 => [(h0, oX10 tby (nI kt) tln tsp (CKD fby kt u.1) (nI u.1) (nI (TKE fby kt u.1)) u.2.1), (tby, iA G 240 fby), (tln, oX8 9 7 tlnc (nI kln)), (tlnc, iA G 63 u.2.2.1)])
set_option maxHeartbeats 4000000 in
set_option maxRecDepth 100000 in
theorem t_head1 (l : Launch) (G : GG) (K : OO) (h0 : Nat) (kl : Nat) (tby : Nat) (kt : Nat) (tln : Nat) (tsp : Nat) (ks : Nat) (tf9 : Int32) (fby : Nat → Int32) (tlnc : Nat) (kln : Nat) (ftln : Nat → Int32) (hkt : kt ≤ 240) (hks : ks ≤ kt) (hBB : BNN fby kt) (hkl : kl < kln) (hkln : kln ≤ 9) (hH9 : HD9 ftln (kl * 7)) : K_t_head1 l G K h0 kl tby kt tln tsp ks tf9 fby tlnc kln ftln := by
  refine MIo.start (by decide +kernel) (Nat.le_of_ble_eq_true rfl) ?_
  intro p e s m below meth c A ls hC hK hP hD hS hA hl hO
  refine absQ (fun Q0 hQ0 => ?_)
  have hl : lv_has ls 3 [(0, .ref h0), (1, .int (nI kl)), (2, .int 1)] := hl
  refine Kan8 hC (fun hx hb hr hml hB hown hlocks hnm => ?_)
  have tk0 := TKE.ge (bt := fby) (n := kt) (s := ks) hks
  refine lv_iload_n hx hb gX10_takesHead_0.1 rfl (lv_at2 hl) ?_
  refine lv_tableIn (tgt := 85) hx hb gX10_takesHead_0.2.1 (by decide) (by decide) rfl (by decide) ?_
  refine lv_aload_n hx hb gX10_takesHead_3.2.2.1 rfl (lv_at0 hl) ?_
  refine lv_iload_n hx hb gX10_takesHead_3.2.2.2.1 rfl (lv_at1 hl) ?_
  refine lv_iconst (v := 1) hx hb gX10_takesHead_3.2.2.2.2.1 (by decide) ?_
  refine lv_bipush (v := 99) hx hb gX10_takesHead_3.2.2.2.2.2.1 (by decide) ?_
  refine iV (wr := []) hC hK hl hP hD hS hA (t_takesNumber l G h0 kl 1 99 tby kt tln tsp ks tf9 fby tlnc kln ftln (hkt) (hks) (hBB) (hkl) (hkln) (by omega) (by omega)) si_X10_135 [0, 1, 2, 3] [] sm_0_1_2_3 fm_0_1_2_3 nd_0_1_2_3 rfl rfl (by decide) rfl rfl rfl rfl rfl (Nat.le_of_ble_eq_true rfl) rm_8_4_5 ⟨Nat.le_of_ble_eq_true rfl, Nat.le_of_ble_eq_true rfl⟩ gX10_takesHead_3.2.2.2.2.2.2.1 (fun r3152 => Ktu3 fun ks13154 tf13155 gtln3156 => ?_)
  intro H locs hr3152 hP hD hS
  try dsimp only at hr3152
  refine Kpdr (ws := [(h0, oX10 tby (nI kt) tln tsp (CKD fby kt ks13154) (nI ks13154) (nI (TKE fby kt ks13154)) tf13155), (tby, iA G 240 fby), (tln, oX8 9 7 tlnc (nI kln)), (tlnc, iA G 63 gtln3156)]) hP hD (fun hP hD => ?_)
  rcases hr3152 with ⟨rfl, a3157⟩ | ⟨rfl, a3157⟩
  · obtain ⟨hq3158, rfl, rfl, rfl⟩ := a3157
    have xl3159 := NML.len hq3158 (by omega)
    refine toQ hQ0 ?_
    exact RI (v := 1) hC hP hD hS [0, 1, 2, 3] ((NXT fby kt ks), tf9, upd ftln (kl * 7 + 1) (nI (NVL fby kt ks)), nI (NVL fby kt ks), (-9), (-9)) rfl rfl (by decide) (Or.inl ⟨rfl, HDQ.a1 (so := 1) (M := 99) rfl (by decide) hq3158, rfl, HDW.w1 hH9⟩) (by decide +kernel) gX10_takesHead_3.2.2.2.2.2.2.2.1
  · obtain ⟨hq3160, rfl, rfl, rfl⟩ := a3157
    refine toQ hQ0 ?_
    exact RI (v := 0) hC hP hD hS [0, 1, 2, 3] (ks, nI ks, ftln, (-9), (-9), (-9)) rfl rfl (by decide) (Or.inr ⟨rfl, HDQ.a0 (so := 1) (M := 99) rfl hq3160, rfl, by (try dsimp only); omega⟩) (by decide +kernel) gX10_takesHead_3.2.2.2.2.2.2.2.1
def K_t_head2 (l : Launch) (G : GG) (K : OO) (h0 : Nat) (kl : Nat) (tby : Nat) (kt : Nat) (tln : Nat) (tsp : Nat) (ks : Nat) (tf9 : Int32) (fby : Nat → Int32) (tlnc : Nat) (kln : Nat) (ftln : Nat → Int32) : Prop := MIo l G K yX10_takesHead cX10_takesHead 3 (some .boolean) 8 0 0 [.ref h0, .int (nI kl), .int 2] [(h0, oX10 tby (nI kt) tln tsp (CKD fby kt ks) (nI ks) (nI (TKE fby kt ks)) tf9), (tby, iA G 240 fby), (tln, oX8 9 7 tlnc (nI kln)), (tlnc, iA G 63 ftln)] (fun (r : Int32) (u : Nat × Int32 × (Nat → Int32) × Int32 × Int32 × Int32) => ((r = 1 ∧ HDQ fby kt 2 ks (1, u.1, u.2.2.2.1, u.2.2.2.2.1, u.2.2.2.2.2) ∧ tf9 = u.2.1 ∧ HDW ftln u.2.2.1 (kl * 7) u.2.2.2.1 u.2.2.2.2.1 u.2.2.2.2.2) ∨ (r = 0 ∧ HDQ fby kt 2 ks (0, u.1, -9, -9, -9) ∧ nI u.1 = u.2.1 ∧ u.1 ≤ kt))) (fun u : Nat × Int32 × (Nat → Int32) × Int32 × Int32 × Int32 => [(h0, oX10 tby (nI kt) tln tsp (CKD fby kt u.1) (nI u.1) (nI (TKE fby kt u.1)) u.2.1), (tby, iA G 240 fby), (tln, oX8 9 7 tlnc (nI kln)), (tlnc, iA G 63 u.2.2.1)])
set_option maxHeartbeats 4000000 in
set_option maxRecDepth 100000 in
theorem t_head2 (l : Launch) (G : GG) (K : OO) (h0 : Nat) (kl : Nat) (tby : Nat) (kt : Nat) (tln : Nat) (tsp : Nat) (ks : Nat) (tf9 : Int32) (fby : Nat → Int32) (tlnc : Nat) (kln : Nat) (ftln : Nat → Int32) (hkt : kt ≤ 240) (hks : ks ≤ kt) (hBB : BNN fby kt) (hkl : kl < kln) (hkln : kln ≤ 9) (hH9 : HD9 ftln (kl * 7)) : K_t_head2 l G K h0 kl tby kt tln tsp ks tf9 fby tlnc kln ftln := by
  refine MIo.start (by decide +kernel) (Nat.le_of_ble_eq_true rfl) ?_
  intro p e s m below meth c A ls hC hK hP hD hS hA hl hO
  refine absQ (fun Q0 hQ0 => ?_)
  have hl : lv_has ls 3 [(0, .ref h0), (1, .int (nI kl)), (2, .int 2)] := hl
  refine Kan8 hC (fun hx hb hr hml hB hown hlocks hnm => ?_)
  have tk0 := TKE.ge (bt := fby) (n := kt) (s := ks) hks
  refine lv_iload_n hx hb gX10_takesHead_0.1 rfl (lv_at2 hl) ?_
  refine lv_tableIn (tgt := 94) hx hb gX10_takesHead_0.2.1 (by decide) (by decide) rfl (by decide) ?_
  refine lv_aload_n hx hb gX10_takesHead_3.2.2.2.2.2.2.2.2.1 rfl (lv_at0 hl) ?_
  refine lv_iload_n hx hb gX10_takesHead_3.2.2.2.2.2.2.2.2.2 rfl (lv_at1 hl) ?_
  refine lv_iconst (v := 1) hx hb gX10_takesHead_4.1 (by decide) ?_
  refine lv_bipush (v := 7) hx hb gX10_takesHead_4.2.1 (by decide) ?_
  refine iV (wr := []) hC hK hl hP hD hS hA (t_takesNumber l G h0 kl 1 7 tby kt tln tsp ks tf9 fby tlnc kln ftln (hkt) (hks) (hBB) (hkl) (hkln) (by omega) (by omega)) si_X10_135 [0, 1, 2, 3] [] sm_0_1_2_3 fm_0_1_2_3 nd_0_1_2_3 rfl rfl (by decide) rfl rfl rfl rfl rfl (Nat.le_of_ble_eq_true rfl) rm_8_4_5 ⟨Nat.le_of_ble_eq_true rfl, Nat.le_of_ble_eq_true rfl⟩ gX10_takesHead_4.2.2.1 (fun r3161 => Ktu3 fun ks13163 tf13164 gtln3165 => ?_)
  intro H locs hr3161 hP hD hS
  try dsimp only at hr3161
  refine Kpdr (ws := [(h0, oX10 tby (nI kt) tln tsp (CKD fby kt ks13163) (nI ks13163) (nI (TKE fby kt ks13163)) tf13164), (tby, iA G 240 fby), (tln, oX8 9 7 tlnc (nI kln)), (tlnc, iA G 63 gtln3165)]) hP hD (fun hP hD => ?_)
  rcases hr3161 with ⟨rfl, a3166⟩ | ⟨rfl, a3166⟩
  · obtain ⟨hq3167, rfl, rfl, rfl⟩ := a3166
    have xl3168 := NML.len hq3167 (by omega)
    refine lv_if_eq (tgt := 130) hx hb gX10_takesHead_4.2.2.2.1 (by decide) (fun c9 => absurd c9 (by decide)) (fun _ => ?_)
    refine lv_aload_n hx hb gX10_takesHead_4.2.2.2.2.1 rfl (lv_at0 hl) ?_
    refine va_ldcS (index := 145) (tx := "by") hx hb hown (hO.2.1 7 (by decide)) gX10_takesHead_4.2.2.2.2.2.1 ?_
    refine iVo (wr := [(tln, oX8 9 7 tlnc (nI kln)), (tlnc, iA G 63 (upd ftln (kl * 7 + 1) (nI (NVL fby kt ks))))]) hO hC hK hl hP hD hS hA (t_takesName l G K 7 h0 tby kt tln tsp (NXT fby kt ks) tf9 fby (hkt) (by omega) (hBB) ((by decide))) si_X10_140 [0, 1] [2, 3] sm_0_1 fm_0_1 nd_0_1 sm_2_3 nd_2_3 dj_0_1__2_3 rfl rfl rfl rfl rfl (Nat.le_of_ble_eq_true rfl) rm_8_7_2 ⟨Nat.le_of_ble_eq_true rfl, Nat.le_of_ble_eq_true rfl⟩ gX10_takesHead_4.2.2.2.2.2.2.1 (fun r3169 => Ktu2 fun ks13171 tf13172 => ?_)
    intro H locs hr3169 hP hD hS
    try dsimp only at hr3169
    refine Kpdr (ws := [(tln, oX8 9 7 tlnc (nI kln)), (tlnc, iA G 63 (upd ftln (kl * 7 + 1) (nI (NVL fby kt ks)))), (h0, oX10 tby (nI kt) tln tsp (CKD fby kt ks13171) (nI ks13171) (nI (TKE fby kt ks13171)) tf13172), (tby, iA G 240 fby)]) hP hD (fun hP hD => ?_)
    rcases hr3169 with ⟨rfl, a3173⟩ | ⟨rfl, a3173⟩
    · obtain ⟨hq3174, rfl, rfl⟩ := a3173
      have xl3175 : (NXT fby kt ks) + 2 ≤ NXT fby kt (NXT fby kt ks) ∧ NXT fby kt (NXT fby kt ks) ≤ kt := WRD.len hq3174 (by omega)
      refine lv_if_eq (tgt := 130) hx hb gX10_takesHead_4.2.2.2.2.2.2.2.1 (by decide) (fun c9 => absurd c9 (by decide)) (fun _ => ?_)
      refine lv_aload_n hx hb gX10_takesHead_4.2.2.2.2.2.2.2.2.1 rfl (lv_at0 hl) ?_
      refine lv_iload_n hx hb gX10_takesHead_4.2.2.2.2.2.2.2.2.2 rfl (lv_at1 hl) ?_
      refine lv_iconst (v := 2) hx hb gX10_takesHead_5.1 (by decide) ?_
      refine lv_sipush (v := 999) hx hb gX10_takesHead_5.2.1 (by decide) ?_
      refine iV (wr := []) hC hK hl hP hD hS hA (t_takesNumber l G h0 kl 2 999 tby kt tln tsp (NXT fby kt (NXT fby kt ks)) tf9 fby tlnc kln (upd ftln (kl * 7 + 1) (nI (NVL fby kt ks))) (hkt) (by omega) (hBB) (hkl) (hkln) (by omega) (by omega)) si_X10_135 [2, 3, 0, 1] [] sm_2_3_0_1 fm_2_3_0_1 nd_2_3_0_1 rfl rfl (by decide) rfl rfl rfl rfl rfl (Nat.le_of_ble_eq_true rfl) rm_8_4_5 ⟨Nat.le_of_ble_eq_true rfl, Nat.le_of_ble_eq_true rfl⟩ gX10_takesHead_5.2.2.1 (fun r3176 => Ktu3 fun ks13178 tf13179 gtln3180 => ?_)
      intro H locs hr3176 hP hD hS
      try dsimp only at hr3176
      refine Kpdr (ws := [(h0, oX10 tby (nI kt) tln tsp (CKD fby kt ks13178) (nI ks13178) (nI (TKE fby kt ks13178)) tf13179), (tby, iA G 240 fby), (tln, oX8 9 7 tlnc (nI kln)), (tlnc, iA G 63 gtln3180)]) hP hD (fun hP hD => ?_)
      rcases hr3176 with ⟨rfl, a3181⟩ | ⟨rfl, a3181⟩
      · obtain ⟨hq3182, rfl, rfl, rfl⟩ := a3181
        have xl3183 := NML.len hq3182 (by omega)
        refine lv_if_eq (tgt := 130) hx hb gX10_takesHead_5.2.2.2.1 (by decide) (fun c9 => absurd c9 (by decide)) (fun _ => ?_)
        refine lv_iconst (v := 1) hx hb gX10_takesHead_5.2.2.2.2.1 (by decide) ?_
        refine lv_goto (tgt := 131) hx hb gX10_takesHead_5.2.2.2.2.2.1 (by decide) ?_
        refine toQ hQ0 ?_
        exact RI (v := 1) hC hP hD hS [0, 1, 2, 3] ((NXT fby kt (NXT fby kt (NXT fby kt ks))), tf9, upd (upd ftln (kl * 7 + 1) (nI (NVL fby kt ks))) (kl * 7 + 2) (nI (NVL fby kt (NXT fby kt (NXT fby kt ks)))), nI (NVL fby kt ks), nI (NVL fby kt (NXT fby kt (NXT fby kt ks))), (-9)) rfl rfl (by decide) (Or.inl ⟨rfl, HDQ.q3 hq3167 hq3174 hq3182, rfl, HDW.w2 hH9⟩) (by decide +kernel) gX10_takesHead_5.2.2.2.2.2.2.2.1
      · obtain ⟨hq3184, rfl, rfl, rfl⟩ := a3181
        refine lv_if_eq (tgt := 130) hx hb gX10_takesHead_5.2.2.2.1 (by decide) (fun _ => ?_) (fun c9 => absurd (by decide) c9)
        refine lv_iconst (v := 0) hx hb gX10_takesHead_5.2.2.2.2.2.2.1 (by decide) ?_
        refine toQ hQ0 ?_
        exact RI (v := 0) hC hP hD hS [0, 1, 2, 3] ((NXT fby kt (NXT fby kt ks)), nI (NXT fby kt (NXT fby kt ks)), (upd ftln (kl * 7 + 1) (nI (NVL fby kt ks))), (-9), (-9), (-9)) rfl rfl (by decide) (Or.inr ⟨rfl, HDQ.q2 hq3167 hq3174 hq3184, rfl, by (try dsimp only); omega⟩) (by decide +kernel) gX10_takesHead_5.2.2.2.2.2.2.2.1
    · obtain ⟨hq3185, rfl, rfl⟩ := a3173
      refine lv_if_eq (tgt := 130) hx hb gX10_takesHead_4.2.2.2.2.2.2.2.1 (by decide) (fun _ => ?_) (fun c9 => absurd (by decide) c9)
      refine lv_iconst (v := 0) hx hb gX10_takesHead_5.2.2.2.2.2.2.1 (by decide) ?_
      refine toQ hQ0 ?_
      exact RI (v := 0) hC hP hD hS [2, 3, 0, 1] ((NXT fby kt ks), nI (NXT fby kt ks), upd ftln (kl * 7 + 1) (nI (NVL fby kt ks)), (-9), (-9), (-9)) rfl rfl (by decide) (Or.inr ⟨rfl, HDQ.q1 hq3167 hq3185, rfl, by (try dsimp only); omega⟩) (by decide +kernel) gX10_takesHead_5.2.2.2.2.2.2.2.1
  · obtain ⟨hq3186, rfl, rfl, rfl⟩ := a3166
    refine lv_if_eq (tgt := 130) hx hb gX10_takesHead_4.2.2.2.1 (by decide) (fun _ => ?_) (fun c9 => absurd (by decide) c9)
    refine lv_iconst (v := 0) hx hb gX10_takesHead_5.2.2.2.2.2.2.1 (by decide) ?_
    refine toQ hQ0 ?_
    exact RI (v := 0) hC hP hD hS [0, 1, 2, 3] (ks, nI ks, ftln, (-9), (-9), (-9)) rfl rfl (by decide) (Or.inr ⟨rfl, HDQ.a0 (so := 2) (M := 7) rfl hq3186, rfl, by (try dsimp only); omega⟩) (by decide +kernel) gX10_takesHead_5.2.2.2.2.2.2.2.1
def K_t_head3 (l : Launch) (G : GG) (K : OO) (h0 : Nat) (kl : Nat) (tby : Nat) (kt : Nat) (tln : Nat) (tsp : Nat) (ks : Nat) (tf9 : Int32) (fby : Nat → Int32) (tlnc : Nat) (kln : Nat) (ftln : Nat → Int32) : Prop := MIo l G K yX10_takesHead cX10_takesHead 3 (some .boolean) 8 0 0 [.ref h0, .int (nI kl), .int 3] [(h0, oX10 tby (nI kt) tln tsp (CKD fby kt ks) (nI ks) (nI (TKE fby kt ks)) tf9), (tby, iA G 240 fby), (tln, oX8 9 7 tlnc (nI kln)), (tlnc, iA G 63 ftln)] (fun (r : Int32) (u : Nat × Int32 × (Nat → Int32) × Int32 × Int32 × Int32) => ((r = 1 ∧ HDQ fby kt 3 ks (1, u.1, u.2.2.2.1, u.2.2.2.2.1, u.2.2.2.2.2) ∧ tf9 = u.2.1 ∧ HDW ftln u.2.2.1 (kl * 7) u.2.2.2.1 u.2.2.2.2.1 u.2.2.2.2.2) ∨ (r = 0 ∧ HDQ fby kt 3 ks (0, u.1, -9, -9, -9) ∧ nI u.1 = u.2.1 ∧ u.1 ≤ kt))) (fun u : Nat × Int32 × (Nat → Int32) × Int32 × Int32 × Int32 => [(h0, oX10 tby (nI kt) tln tsp (CKD fby kt u.1) (nI u.1) (nI (TKE fby kt u.1)) u.2.1), (tby, iA G 240 fby), (tln, oX8 9 7 tlnc (nI kln)), (tlnc, iA G 63 u.2.2.1)])
set_option maxHeartbeats 4000000 in
set_option maxRecDepth 100000 in
theorem t_head3 (l : Launch) (G : GG) (K : OO) (h0 : Nat) (kl : Nat) (tby : Nat) (kt : Nat) (tln : Nat) (tsp : Nat) (ks : Nat) (tf9 : Int32) (fby : Nat → Int32) (tlnc : Nat) (kln : Nat) (ftln : Nat → Int32) (hkt : kt ≤ 240) (hks : ks ≤ kt) (hBB : BNN fby kt) (hkl : kl < kln) (hkln : kln ≤ 9) (hH9 : HD9 ftln (kl * 7)) : K_t_head3 l G K h0 kl tby kt tln tsp ks tf9 fby tlnc kln ftln := by
  refine MIo.start (by decide +kernel) (Nat.le_of_ble_eq_true rfl) ?_
  intro p e s m below meth c A ls hC hK hP hD hS hA hl hO
  refine absQ (fun Q0 hQ0 => ?_)
  have hl : lv_has ls 3 [(0, .ref h0), (1, .int (nI kl)), (2, .int 3)] := hl
  refine Kan8 hC (fun hx hb hr hml hB hown hlocks hnm => ?_)
  have tk0 := TKE.ge (bt := fby) (n := kt) (s := ks) hks
  refine lv_iload_n hx hb gX10_takesHead_0.1 rfl (lv_at2 hl) ?_
  refine lv_tableOut (tgt := 132) hx hb gX10_takesHead_0.2.1 (by decide) (by decide) ?_
  refine lv_aload_n hx hb gX10_takesHead_5.2.2.2.2.2.2.2.2.1 rfl (lv_at0 hl) ?_
  refine lv_iload_n hx hb gX10_takesHead_5.2.2.2.2.2.2.2.2.2 rfl (lv_at1 hl) ?_
  refine lv_iconst (v := 1) hx hb gX10_takesHead_6.1 (by decide) ?_
  refine lv_bipush (v := 9) hx hb gX10_takesHead_6.2.1 (by decide) ?_
  refine iV (wr := []) hC hK hl hP hD hS hA (t_takesNumber l G h0 kl 1 9 tby kt tln tsp ks tf9 fby tlnc kln ftln (hkt) (hks) (hBB) (hkl) (hkln) (by omega) (by omega)) si_X10_135 [0, 1, 2, 3] [] sm_0_1_2_3 fm_0_1_2_3 nd_0_1_2_3 rfl rfl (by decide) rfl rfl rfl rfl rfl (Nat.le_of_ble_eq_true rfl) rm_8_4_5 ⟨Nat.le_of_ble_eq_true rfl, Nat.le_of_ble_eq_true rfl⟩ gX10_takesHead_6.2.2.1 (fun r3187 => Ktu3 fun ks13189 tf13190 gtln3191 => ?_)
  intro H locs hr3187 hP hD hS
  try dsimp only at hr3187
  refine Kpdr (ws := [(h0, oX10 tby (nI kt) tln tsp (CKD fby kt ks13189) (nI ks13189) (nI (TKE fby kt ks13189)) tf13190), (tby, iA G 240 fby), (tln, oX8 9 7 tlnc (nI kln)), (tlnc, iA G 63 gtln3191)]) hP hD (fun hP hD => ?_)
  rcases hr3187 with ⟨rfl, a3192⟩ | ⟨rfl, a3192⟩
  · obtain ⟨hq3193, rfl, rfl, rfl⟩ := a3192
    have xl3194 := NML.len hq3193 (by omega)
    refine toQ hQ0 ?_
    exact RI (v := 1) hC hP hD hS [0, 1, 2, 3] ((NXT fby kt ks), tf9, upd ftln (kl * 7 + 1) (nI (NVL fby kt ks)), nI (NVL fby kt ks), (-9), (-9)) rfl rfl (by decide) (Or.inl ⟨rfl, HDQ.a1 (so := 3) (M := 9) rfl (by decide) hq3193, rfl, HDW.w1 hH9⟩) (by decide +kernel) gX10_takesHead_6.2.2.2
  · obtain ⟨hq3195, rfl, rfl, rfl⟩ := a3192
    refine toQ hQ0 ?_
    exact RI (v := 0) hC hP hD hS [0, 1, 2, 3] (ks, nI ks, ftln, (-9), (-9), (-9)) rfl rfl (by decide) (Or.inr ⟨rfl, HDQ.a0 (so := 3) (M := 9) rfl hq3195, rfl, by (try dsimp only); omega⟩) (by decide +kernel) gX10_takesHead_6.2.2.2
def K_t_line (l : Launch) (G : GG) (K : OO) (h0 : Nat) (tby : Nat) (kt : Nat) (tln : Nat) (tsp : Nat) (ks : Nat) (tf9 : Int32) (fby : Nat → Int32) (tlnc : Nat) (kln : Nat) (ftln : Nat → Int32) (tspc : Nat) (ksp : Nat) (ftsp : Nat → Int32) (cs : List Int32) (rs : List Int32) : Prop := MIo l G K yX10_takesLine cX10_takesLine 3 (some .boolean) 30 0 0 [.ref h0] [(h0, oX10 tby (nI kt) tln tsp (CKD fby kt ks) (nI ks) (nI (TKE fby kt ks)) tf9), (tby, iA G 240 fby), (tln, oX8 9 7 tlnc (nI kln)), (tlnc, iA G 63 ftln), (tsp, oX8 120 1 tspc (nI ksp)), (tspc, iA G 120 ftsp)] (fun (r : Int32) (u : Nat × Int32 × Nat × (Nat → Int32) × Nat × (Nat → Int32) × LNT × (List Int32) × (List Int32)) => ((r = 1 ∧ RLN fby kt ks cs rs (1, u.1, u.2.2.2.2.2.2.1, u.2.2.2.2.2.2.2.1, u.2.2.2.2.2.2.2.2) ∧ STP u.2.2.2.2.1 u.2.2.2.2.2.1 u.2.2.2.2.2.2.2.1 ∧ LNW ftln u.2.2.2.1 kln u.2.2.2.2.2.2.1 ∧ tf9 = u.2.1 ∧ kln + 1 = u.2.2.1 ∧ 3 * u.2.2.2.2.1 ≤ u.1 ∧ u.1 ≤ kt) ∨ (r = 0 ∧ RLN fby kt ks cs rs (0, u.1, LN0, [], []) ∧ nI u.1 = u.2.1 ∧ u.1 ≤ kt ∧ u.2.2.1 ≤ 9 ∧ u.2.2.2.2.1 ≤ 120))) (fun u : Nat × Int32 × Nat × (Nat → Int32) × Nat × (Nat → Int32) × LNT × (List Int32) × (List Int32) => [(h0, oX10 tby (nI kt) tln tsp (CKD fby kt u.1) (nI u.1) (nI (TKE fby kt u.1)) u.2.1), (tby, iA G 240 fby), (tln, oX8 9 7 tlnc (nI u.2.2.1)), (tlnc, iA G 63 u.2.2.2.1), (tsp, oX8 120 1 tspc (nI u.2.2.2.2.1)), (tspc, iA G 120 u.2.2.2.2.2.1)])
set_option maxHeartbeats 4000000 in
set_option maxRecDepth 100000 in
theorem t_line (l : Launch) (G : GG) (K : OO) (h0 : Nat) (tby : Nat) (kt : Nat) (tln : Nat) (tsp : Nat) (ks : Nat) (tf9 : Int32) (fby : Nat → Int32) (tlnc : Nat) (kln : Nat) (ftln : Nat → Int32) (tspc : Nat) (ksp : Nat) (ftsp : Nat → Int32) (cs : List Int32) (rs : List Int32) (hkt : kt ≤ 240) (hks : ks ≤ kt) (hBB : BNN fby kt) (hST : STP ksp ftsp cs) (h3s : 3 * ksp ≤ ks) (hkln : kln < 9) : K_t_line l G K h0 tby kt tln tsp ks tf9 fby tlnc kln ftln tspc ksp ftsp cs rs := by
  refine MIo.start (by decide +kernel) (Nat.le_of_ble_eq_true rfl) ?_
  intro p e s m below meth c A ls hC hK hP hD hS hA hl hO
  refine absQ (fun Q0 hQ0 => ?_)
  have hl : lv_has ls 3 [(0, .ref h0)] := hl
  refine Kan8 hC (fun hx hb hr hml hB hown hlocks hnm => ?_)
  have tk0 := TKE.ge (bt := fby) (n := kt) (s := ks) hks
  have hs1 := hST.1
  refine lv_aload_n hx hb gX10_takesLine_0.1 rfl (lv_at0 hl) ?_
  refine gf_X10_20 hC rfl hK hP 0 rfl rfl gX10_takesLine_0.2.1 ?_
  refine iV (wr := [(h0, oX10 tby (nI kt) tln tsp (CKD fby kt ks) (nI ks) (nI (TKE fby kt ks)) tf9), (tby, iA G 240 fby), (tlnc, iA G 63 ftln), (tsp, oX8 120 1 tspc (nI ksp)), (tspc, iA G 120 ftsp)]) hC hK hl hP hD hS hA (c_T_append l G tln 9 7 tlnc kln (hkln) (by omega)) si_X10_59 [2] [0, 1, 3, 4, 5] sm_2 fm_2 nd_2 sm_0_1_3_4_5 nd_0_1_3_4_5 dj_2__0_1_3_4_5 rfl rfl rfl rfl rfl (Nat.le_of_ble_eq_true rfl) rm_30_1_1 ⟨Nat.le_of_ble_eq_true rfl, Nat.le_of_ble_eq_true rfl⟩ gX10_takesLine_0.2.2.1 (fun r3196 u3197 H locs hr3196 hP hD hS => ?_)
  refine Kpdr (ws := [(h0, oX10 tby (nI kt) tln tsp (CKD fby kt ks) (nI ks) (nI (TKE fby kt ks)) tf9), (tby, iA G 240 fby), (tlnc, iA G 63 ftln), (tsp, oX8 120 1 tspc (nI ksp)), (tspc, iA G 120 ftsp), (tln, oX8 9 7 tlnc (nI (kln + 1)))]) hP hD (fun hP hD => ?_)
  obtain rfl := hr3196
  refine lv_istore_n (lv' := [(1, .int (nI kln)), (0, .ref h0)]) hx hb gX10_takesLine_0.2.2.2.1 rfl hl (by decide) rfl (fun ls hl => ?_)
  refine lv_iload_n hx hb gX10_takesLine_0.2.2.2.2.1 rfl (lv_at0 hl) ?_
  refine lv_if_ge (tgt := 17) hx hb gX10_takesLine_0.2.2.2.2.2.1 (by decide) (fun _ => ?_) (fun c9 => absurd (Int32.not_lt.mp (nI_pos (by omega))) c9)
  refine lv_iconst (v := 1) hx hb gX10_takesLine_0.2.2.2.2.2.2.2.2.2 (by decide) ?_
  refine lv_istore_n (lv' := [(2, .int 1), (1, .int (nI kln)), (0, .ref h0)]) hx hb gX10_takesLine_1.1 rfl hl (by decide) rfl (fun ls hl => ?_)
  refine lv_iload_n hx hb gX10_takesLine_1.2.1 rfl (lv_at0 hl) ?_
  refine lv_iconst (v := 3) hx hb gX10_takesLine_1.2.2.1 (by decide) ?_
  refine lv_icmp_gt (tgt := 41) hx hb gX10_takesLine_1.2.2.2.1 (by decide) (fun c9 => absurd c9 (by decide)) (fun _ => ?_)
  refine lv_aload_n hx hb gX10_takesLine_1.2.2.2.2.1 rfl (lv_at2 hl) ?_
  refine gf_X10_20 hC rfl hK hP 0 rfl rfl gX10_takesLine_1.2.2.2.2.2.1 ?_
  refine lv_iload_n hx hb gX10_takesLine_1.2.2.2.2.2.2.1 rfl (lv_at1 hl) ?_
  refine lv_iload_n hx hb gX10_takesLine_1.2.2.2.2.2.2.2.1 rfl (lv_at0 hl) ?_
  refine lv_bipush (v := (-9)) hx hb gX10_takesLine_1.2.2.2.2.2.2.2.2.1 (by decide) ?_
  refine vV (wr := [(h0, oX10 tby (nI kt) tln tsp (CKD fby kt ks) (nI ks) (nI (TKE fby kt ks)) tf9), (tby, iA G 240 fby), (tsp, oX8 120 1 tspc (nI ksp)), (tspc, iA G 120 ftsp)]) hC hK hl hP hD hS hA (c_T_set l G tln (nI kln) 1 (-9) 9 7 tlnc (kln + 1) ftln (by omega) (by omega) (by omega)) si_X10_66 [5, 2] [0, 1, 3, 4] sm_5_2 fm_5_2 nd_5_2 sm_0_1_3_4 nd_0_1_3_4 dj_5_2__0_1_3_4 rfl rfl rfl rfl rfl (Nat.le_of_ble_eq_true rfl) rm_30_1_4 ⟨Nat.le_of_ble_eq_true rfl, Nat.le_of_ble_eq_true rfl⟩ gX10_takesLine_1.2.2.2.2.2.2.2.2.2 (fun f13201 H locs hr3199 hP hD hS => ?_)
  try dsimp only at hr3199
  refine Kpdr (ws := [(h0, oX10 tby (nI kt) tln tsp (CKD fby kt ks) (nI ks) (nI (TKE fby kt ks)) tf9), (tby, iA G 240 fby), (tsp, oX8 120 1 tspc (nI ksp)), (tspc, iA G 120 ftsp), (tln, oX8 9 7 tlnc (nI (kln + 1))), (tlnc, iA G 63 f13201)]) hP hD (fun hP hD => ?_)
  have w3202 := hr3199
  obtain rfl : upd ftln (kln * 7 + 1) (-9) = f13201 := ((tsj (j := kln) (c := 1) (by omega) (by omega) (by omega) (by decide) rfl).symm.trans w3202)
  refine Kpdr (ws := [(h0, oX10 tby (nI kt) tln tsp (CKD fby kt ks) (nI ks) (nI (TKE fby kt ks)) tf9), (tby, iA G 240 fby), (tsp, oX8 120 1 tspc (nI ksp)), (tspc, iA G 120 ftsp), (tln, oX8 9 7 tlnc (nI (kln + 1))), (tlnc, iA G 63 (upd ftln (kln * 7 + 1) (-9)))]) hP hD (fun hP hD => ?_)
  refine lv_iinc (v := 2) (lv' := [(2, .int 2), (1, .int (nI kln)), (0, .ref h0)]) hx hb gX10_takesLine_2.1 hl (k := 0) rfl (by decide) (by decide) rfl (fun ls hl => ?_)
  refine lv_goto (tgt := 19) hx hb gX10_takesLine_2.2.1 (by decide) ?_
  refine lv_iload_n hx hb gX10_takesLine_1.2.1 rfl (lv_at0 hl) ?_
  refine lv_iconst (v := 3) hx hb gX10_takesLine_1.2.2.1 (by decide) ?_
  refine lv_icmp_gt (tgt := 41) hx hb gX10_takesLine_1.2.2.2.1 (by decide) (fun c9 => absurd c9 (by decide)) (fun _ => ?_)
  refine lv_aload_n hx hb gX10_takesLine_1.2.2.2.2.1 rfl (lv_at2 hl) ?_
  refine gf_X10_20 hC rfl hK hP 0 rfl rfl gX10_takesLine_1.2.2.2.2.2.1 ?_
  refine lv_iload_n hx hb gX10_takesLine_1.2.2.2.2.2.2.1 rfl (lv_at1 hl) ?_
  refine lv_iload_n hx hb gX10_takesLine_1.2.2.2.2.2.2.2.1 rfl (lv_at0 hl) ?_
  refine lv_bipush (v := (-9)) hx hb gX10_takesLine_1.2.2.2.2.2.2.2.2.1 (by decide) ?_
  refine vV (wr := [(h0, oX10 tby (nI kt) tln tsp (CKD fby kt ks) (nI ks) (nI (TKE fby kt ks)) tf9), (tby, iA G 240 fby), (tsp, oX8 120 1 tspc (nI ksp)), (tspc, iA G 120 ftsp)]) hC hK hl hP hD hS hA (c_T_set l G tln (nI kln) 2 (-9) 9 7 tlnc (kln + 1) (upd ftln (kln * 7 + 1) (-9)) (by omega) (by omega) (by omega)) si_X10_66 [4, 5] [0, 1, 2, 3] sm_4_5 fm_4_5 nd_4_5 sm_0_1_2_3 nd_0_1_2_3 dj_4_5__0_1_2_3 rfl rfl rfl rfl rfl (Nat.le_of_ble_eq_true rfl) rm_30_1_4 ⟨Nat.le_of_ble_eq_true rfl, Nat.le_of_ble_eq_true rfl⟩ gX10_takesLine_1.2.2.2.2.2.2.2.2.2 (fun f13205 H locs hr3203 hP hD hS => ?_)
  try dsimp only at hr3203
  refine Kpdr (ws := [(h0, oX10 tby (nI kt) tln tsp (CKD fby kt ks) (nI ks) (nI (TKE fby kt ks)) tf9), (tby, iA G 240 fby), (tsp, oX8 120 1 tspc (nI ksp)), (tspc, iA G 120 ftsp), (tln, oX8 9 7 tlnc (nI (kln + 1))), (tlnc, iA G 63 f13205)]) hP hD (fun hP hD => ?_)
  have w3206 := hr3203
  obtain rfl : upd (upd ftln (kln * 7 + 1) (-9)) (kln * 7 + 2) (-9) = f13205 := ((tsj (j := kln) (c := 2) (by omega) (by omega) (by omega) (by decide) rfl).symm.trans w3206)
  refine Kpdr (ws := [(h0, oX10 tby (nI kt) tln tsp (CKD fby kt ks) (nI ks) (nI (TKE fby kt ks)) tf9), (tby, iA G 240 fby), (tsp, oX8 120 1 tspc (nI ksp)), (tspc, iA G 120 ftsp), (tln, oX8 9 7 tlnc (nI (kln + 1))), (tlnc, iA G 63 (upd (upd ftln (kln * 7 + 1) (-9)) (kln * 7 + 2) (-9)))]) hP hD (fun hP hD => ?_)
  refine lv_iinc (v := 3) (lv' := [(2, .int 3), (1, .int (nI kln)), (0, .ref h0)]) hx hb gX10_takesLine_2.1 hl (k := 0) rfl (by decide) (by decide) rfl (fun ls hl => ?_)
  refine lv_goto (tgt := 19) hx hb gX10_takesLine_2.2.1 (by decide) ?_
  refine lv_iload_n hx hb gX10_takesLine_1.2.1 rfl (lv_at0 hl) ?_
  refine lv_iconst (v := 3) hx hb gX10_takesLine_1.2.2.1 (by decide) ?_
  refine lv_icmp_gt (tgt := 41) hx hb gX10_takesLine_1.2.2.2.1 (by decide) (fun c9 => absurd c9 (by decide)) (fun _ => ?_)
  refine lv_aload_n hx hb gX10_takesLine_1.2.2.2.2.1 rfl (lv_at2 hl) ?_
  refine gf_X10_20 hC rfl hK hP 0 rfl rfl gX10_takesLine_1.2.2.2.2.2.1 ?_
  refine lv_iload_n hx hb gX10_takesLine_1.2.2.2.2.2.2.1 rfl (lv_at1 hl) ?_
  refine lv_iload_n hx hb gX10_takesLine_1.2.2.2.2.2.2.2.1 rfl (lv_at0 hl) ?_
  refine lv_bipush (v := (-9)) hx hb gX10_takesLine_1.2.2.2.2.2.2.2.2.1 (by decide) ?_
  refine vV (wr := [(h0, oX10 tby (nI kt) tln tsp (CKD fby kt ks) (nI ks) (nI (TKE fby kt ks)) tf9), (tby, iA G 240 fby), (tsp, oX8 120 1 tspc (nI ksp)), (tspc, iA G 120 ftsp)]) hC hK hl hP hD hS hA (c_T_set l G tln (nI kln) 3 (-9) 9 7 tlnc (kln + 1) (upd (upd ftln (kln * 7 + 1) (-9)) (kln * 7 + 2) (-9)) (by omega) (by omega) (by omega)) si_X10_66 [4, 5] [0, 1, 2, 3] sm_4_5 fm_4_5 nd_4_5 sm_0_1_2_3 nd_0_1_2_3 dj_4_5__0_1_2_3 rfl rfl rfl rfl rfl (Nat.le_of_ble_eq_true rfl) rm_30_1_4 ⟨Nat.le_of_ble_eq_true rfl, Nat.le_of_ble_eq_true rfl⟩ gX10_takesLine_1.2.2.2.2.2.2.2.2.2 (fun f13209 H locs hr3207 hP hD hS => ?_)
  try dsimp only at hr3207
  refine Kpdr (ws := [(h0, oX10 tby (nI kt) tln tsp (CKD fby kt ks) (nI ks) (nI (TKE fby kt ks)) tf9), (tby, iA G 240 fby), (tsp, oX8 120 1 tspc (nI ksp)), (tspc, iA G 120 ftsp), (tln, oX8 9 7 tlnc (nI (kln + 1))), (tlnc, iA G 63 f13209)]) hP hD (fun hP hD => ?_)
  have w3210 := hr3207
  obtain rfl : upd (upd (upd ftln (kln * 7 + 1) (-9)) (kln * 7 + 2) (-9)) (kln * 7 + 3) (-9) = f13209 := ((tsj (j := kln) (c := 3) (by omega) (by omega) (by omega) (by decide) rfl).symm.trans w3210)
  refine Kpdr (ws := [(h0, oX10 tby (nI kt) tln tsp (CKD fby kt ks) (nI ks) (nI (TKE fby kt ks)) tf9), (tby, iA G 240 fby), (tsp, oX8 120 1 tspc (nI ksp)), (tspc, iA G 120 ftsp), (tln, oX8 9 7 tlnc (nI (kln + 1))), (tlnc, iA G 63 (upd (upd (upd ftln (kln * 7 + 1) (-9)) (kln * 7 + 2) (-9)) (kln * 7 + 3) (-9)))]) hP hD (fun hP hD => ?_)
  refine lv_iinc (v := 4) (lv' := [(2, .int 4), (1, .int (nI kln)), (0, .ref h0)]) hx hb gX10_takesLine_2.1 hl (k := 0) rfl (by decide) (by decide) rfl (fun ls hl => ?_)
  refine lv_goto (tgt := 19) hx hb gX10_takesLine_2.2.1 (by decide) ?_
  refine lv_iload_n hx hb gX10_takesLine_1.2.1 rfl (lv_at0 hl) ?_
  refine lv_iconst (v := 3) hx hb gX10_takesLine_1.2.2.1 (by decide) ?_
  refine lv_icmp_gt (tgt := 41) hx hb gX10_takesLine_1.2.2.2.1 (by decide) (fun _ => ?_) (fun c9 => absurd (by decide) c9)
  refine lv_aload_n hx hb gX10_takesLine_2.2.2.1 rfl (lv_at2 hl) ?_
  refine gf_X10_20 hC rfl hK hP 0 rfl rfl gX10_takesLine_2.2.2.2.1 ?_
  refine lv_iload_n hx hb gX10_takesLine_2.2.2.2.2.1 rfl (lv_at1 hl) ?_
  refine lv_iconst (v := 4) hx hb gX10_takesLine_2.2.2.2.2.2.1 (by decide) ?_
  refine lv_iconst (v := 0) hx hb gX10_takesLine_2.2.2.2.2.2.2.1 (by decide) ?_
  refine vV (wr := [(h0, oX10 tby (nI kt) tln tsp (CKD fby kt ks) (nI ks) (nI (TKE fby kt ks)) tf9), (tby, iA G 240 fby), (tsp, oX8 120 1 tspc (nI ksp)), (tspc, iA G 120 ftsp)]) hC hK hl hP hD hS hA (c_T_set l G tln (nI kln) 4 0 9 7 tlnc (kln + 1) (upd (upd (upd ftln (kln * 7 + 1) (-9)) (kln * 7 + 2) (-9)) (kln * 7 + 3) (-9)) (by omega) (by omega) (by omega)) si_X10_66 [4, 5] [0, 1, 2, 3] sm_4_5 fm_4_5 nd_4_5 sm_0_1_2_3 nd_0_1_2_3 dj_4_5__0_1_2_3 rfl rfl rfl rfl rfl (Nat.le_of_ble_eq_true rfl) rm_30_1_4 ⟨Nat.le_of_ble_eq_true rfl, Nat.le_of_ble_eq_true rfl⟩ gX10_takesLine_2.2.2.2.2.2.2.2.1 (fun f13213 H locs hr3211 hP hD hS => ?_)
  try dsimp only at hr3211
  refine Kpdr (ws := [(h0, oX10 tby (nI kt) tln tsp (CKD fby kt ks) (nI ks) (nI (TKE fby kt ks)) tf9), (tby, iA G 240 fby), (tsp, oX8 120 1 tspc (nI ksp)), (tspc, iA G 120 ftsp), (tln, oX8 9 7 tlnc (nI (kln + 1))), (tlnc, iA G 63 f13213)]) hP hD (fun hP hD => ?_)
  have w3214 := hr3211
  obtain rfl : upd (upd (upd (upd ftln (kln * 7 + 1) (-9)) (kln * 7 + 2) (-9)) (kln * 7 + 3) (-9)) (kln * 7 + 4) 0 = f13213 := ((tsj (j := kln) (c := 4) (by omega) (by omega) (by omega) (by decide) rfl).symm.trans w3214)
  refine Kpdr (ws := [(h0, oX10 tby (nI kt) tln tsp (CKD fby kt ks) (nI ks) (nI (TKE fby kt ks)) tf9), (tby, iA G 240 fby), (tsp, oX8 120 1 tspc (nI ksp)), (tspc, iA G 120 ftsp), (tln, oX8 9 7 tlnc (nI (kln + 1))), (tlnc, iA G 63 (upd (upd (upd (upd ftln (kln * 7 + 1) (-9)) (kln * 7 + 2) (-9)) (kln * 7 + 3) (-9)) (kln * 7 + 4) 0))]) hP hD (fun hP hD => ?_)
  refine lv_aload_n hx hb gX10_takesLine_2.2.2.2.2.2.2.2.2.1 rfl (lv_at2 hl) ?_
  refine gf_X10_20 hC rfl hK hP 0 rfl rfl gX10_takesLine_2.2.2.2.2.2.2.2.2.2 ?_
  refine lv_iload_n hx hb gX10_takesLine_3.1 rfl (lv_at1 hl) ?_
  refine lv_iconst (v := 5) hx hb gX10_takesLine_3.2.1 (by decide) ?_
  refine lv_aload_n hx hb gX10_takesLine_3.2.2.1 rfl (lv_at2 hl) ?_
  refine gf_X10_24 hC rfl hK hP 0 rfl rfl gX10_takesLine_3.2.2.2.1 ?_
  refine pV hC hK hl hP hD (c_T_count l G tsp 120 1 tspc ksp) si_X10_71 [2] sm_2 fm_2 nd_2 rfl rfl rfl rfl rfl (Nat.le_of_ble_eq_true rfl) rm_30_1_1 ⟨by first | exact Nat.le_of_ble_eq_true rfl | exact Nat.zero_le _, by first | exact Nat.le_of_ble_eq_true rfl | exact Nat.zero_le _⟩ gX10_takesLine_3.2.2.2.2.1 (Keqr ?_)
  refine vV (wr := [(h0, oX10 tby (nI kt) tln tsp (CKD fby kt ks) (nI ks) (nI (TKE fby kt ks)) tf9), (tby, iA G 240 fby), (tsp, oX8 120 1 tspc (nI ksp)), (tspc, iA G 120 ftsp)]) hC hK hl hP hD hS hA (c_T_set l G tln (nI kln) 5 (nI ksp) 9 7 tlnc (kln + 1) (upd (upd (upd (upd ftln (kln * 7 + 1) (-9)) (kln * 7 + 2) (-9)) (kln * 7 + 3) (-9)) (kln * 7 + 4) 0) (by omega) (by omega) (by omega)) si_X10_66 [4, 5] [0, 1, 2, 3] sm_4_5 fm_4_5 nd_4_5 sm_0_1_2_3 nd_0_1_2_3 dj_4_5__0_1_2_3 rfl rfl rfl rfl rfl (Nat.le_of_ble_eq_true rfl) rm_30_1_4 ⟨Nat.le_of_ble_eq_true rfl, Nat.le_of_ble_eq_true rfl⟩ gX10_takesLine_3.2.2.2.2.2.1 (fun f13219 H locs hr3217 hP hD hS => ?_)
  try dsimp only at hr3217
  refine Kpdr (ws := [(h0, oX10 tby (nI kt) tln tsp (CKD fby kt ks) (nI ks) (nI (TKE fby kt ks)) tf9), (tby, iA G 240 fby), (tsp, oX8 120 1 tspc (nI ksp)), (tspc, iA G 120 ftsp), (tln, oX8 9 7 tlnc (nI (kln + 1))), (tlnc, iA G 63 f13219)]) hP hD (fun hP hD => ?_)
  have w3220 := hr3217
  obtain rfl : upd (upd (upd (upd (upd ftln (kln * 7 + 1) (-9)) (kln * 7 + 2) (-9)) (kln * 7 + 3) (-9)) (kln * 7 + 4) 0) (kln * 7 + 5) (nI ksp) = f13219 := ((tsj (j := kln) (c := 5) (by omega) (by omega) (by omega) (by decide) rfl).symm.trans w3220)
  refine Kpdr (ws := [(h0, oX10 tby (nI kt) tln tsp (CKD fby kt ks) (nI ks) (nI (TKE fby kt ks)) tf9), (tby, iA G 240 fby), (tsp, oX8 120 1 tspc (nI ksp)), (tspc, iA G 120 ftsp), (tln, oX8 9 7 tlnc (nI (kln + 1))), (tlnc, iA G 63 (upd (upd (upd (upd (upd ftln (kln * 7 + 1) (-9)) (kln * 7 + 2) (-9)) (kln * 7 + 3) (-9)) (kln * 7 + 4) 0) (kln * 7 + 5) (nI ksp)))]) hP hD (fun hP hD => ?_)
  refine lv_aload_n hx hb gX10_takesLine_3.2.2.2.2.2.2.1 rfl (lv_at2 hl) ?_
  refine gf_X10_20 hC rfl hK hP 0 rfl rfl gX10_takesLine_3.2.2.2.2.2.2.2.1 ?_
  refine lv_iload_n hx hb gX10_takesLine_3.2.2.2.2.2.2.2.2.1 rfl (lv_at1 hl) ?_
  refine lv_bipush (v := 6) hx hb gX10_takesLine_3.2.2.2.2.2.2.2.2.2 (by decide) ?_
  refine lv_iconst (v := 0) hx hb gX10_takesLine_4.1 (by decide) ?_
  refine vV (wr := [(h0, oX10 tby (nI kt) tln tsp (CKD fby kt ks) (nI ks) (nI (TKE fby kt ks)) tf9), (tby, iA G 240 fby), (tsp, oX8 120 1 tspc (nI ksp)), (tspc, iA G 120 ftsp)]) hC hK hl hP hD hS hA (c_T_set l G tln (nI kln) 6 0 9 7 tlnc (kln + 1) (upd (upd (upd (upd (upd ftln (kln * 7 + 1) (-9)) (kln * 7 + 2) (-9)) (kln * 7 + 3) (-9)) (kln * 7 + 4) 0) (kln * 7 + 5) (nI ksp)) (by omega) (by omega) (by omega)) si_X10_66 [4, 5] [0, 1, 2, 3] sm_4_5 fm_4_5 nd_4_5 sm_0_1_2_3 nd_0_1_2_3 dj_4_5__0_1_2_3 rfl rfl rfl rfl rfl (Nat.le_of_ble_eq_true rfl) rm_30_1_4 ⟨Nat.le_of_ble_eq_true rfl, Nat.le_of_ble_eq_true rfl⟩ gX10_takesLine_4.2.1 (fun f13223 H locs hr3221 hP hD hS => ?_)
  try dsimp only at hr3221
  refine Kpdr (ws := [(h0, oX10 tby (nI kt) tln tsp (CKD fby kt ks) (nI ks) (nI (TKE fby kt ks)) tf9), (tby, iA G 240 fby), (tsp, oX8 120 1 tspc (nI ksp)), (tspc, iA G 120 ftsp), (tln, oX8 9 7 tlnc (nI (kln + 1))), (tlnc, iA G 63 f13223)]) hP hD (fun hP hD => ?_)
  have w3224 := hr3221
  obtain rfl : upd (upd (upd (upd (upd (upd ftln (kln * 7 + 1) (-9)) (kln * 7 + 2) (-9)) (kln * 7 + 3) (-9)) (kln * 7 + 4) 0) (kln * 7 + 5) (nI ksp)) (kln * 7 + 6) 0 = f13223 := ((tsj (j := kln) (c := 6) (by omega) (by omega) (by omega) (by decide) rfl).symm.trans w3224)
  refine Kpdr (ws := [(h0, oX10 tby (nI kt) tln tsp (CKD fby kt ks) (nI ks) (nI (TKE fby kt ks)) tf9), (tby, iA G 240 fby), (tsp, oX8 120 1 tspc (nI ksp)), (tspc, iA G 120 ftsp), (tln, oX8 9 7 tlnc (nI (kln + 1))), (tlnc, iA G 63 (upd (upd (upd (upd (upd (upd ftln (kln * 7 + 1) (-9)) (kln * 7 + 2) (-9)) (kln * 7 + 3) (-9)) (kln * 7 + 4) 0) (kln * 7 + 5) (nI ksp)) (kln * 7 + 6) 0))]) hP hD (fun hP hD => ?_)
  refine lv_aload_n hx hb gX10_takesLine_4.2.2.1 rfl (lv_at2 hl) ?_
  refine pVo hO hS hC hK hl hP hD (t_sortHere l G K h0 tby kt tln tsp ks tf9 fby (hkt) (hks) (hBB)) si_X10_112 [0, 1] sm_0_1 fm_0_1 nd_0_1 rfl rfl rfl rfl rfl (Nat.le_of_ble_eq_true rfl) rm_30_7_1 ⟨by first | exact Nat.le_of_ble_eq_true rfl | exact Nat.zero_le _, by first | exact Nat.le_of_ble_eq_true rfl | exact Nat.zero_le _⟩ gX10_takesLine_4.2.2.2.1 (Kors (Keqa fun a3226 => ?_) (Kors (Keqa fun a3226 => ?_) (Kors (Keqa fun a3226 => ?_) (Kors (Keqa fun a3226 => ?_) (Keqa fun a3226 => ?_)))))
  · have hq3227 := a3226
    refine lv_istore_n (lv' := [(2, .int (-1)), (1, .int (nI kln)), (0, .ref h0)]) hx hb gX10_takesLine_4.2.2.2.2.1 rfl hl (by decide) rfl (fun ls hl => ?_)
    refine lv_iload_n hx hb gX10_takesLine_4.2.2.2.2.2.1 rfl (lv_at0 hl) ?_
    refine lv_if_ge (tgt := 92) hx hb gX10_takesLine_4.2.2.2.2.2.2.1 (by decide) (fun c9 => absurd c9 (by decide)) (fun _ => ?_)
    refine lv_aload_n hx hb gX10_takesLine_4.2.2.2.2.2.2.2.1 rfl (lv_at2 hl) ?_
    refine iV (wr := [(tby, iA G 240 fby), (tsp, oX8 120 1 tspc (nI ksp)), (tspc, iA G 120 ftsp), (tln, oX8 9 7 tlnc (nI (kln + 1))), (tlnc, iA G 63 (upd (upd (upd (upd (upd (upd ftln (kln * 7 + 1) (-9)) (kln * 7 + 2) (-9)) (kln * 7 + 3) (-9)) (kln * 7 + 4) 0) (kln * 7 + 5) (nI ksp)) (kln * 7 + 6) 0))]) hC hK hl hP hD hS hA (t_refuseX l G h0 tby kt tln tsp (CKD fby kt ks) ks (TKE fby kt ks) tf9) si_X10_106 [0] [1, 2, 3, 4, 5] sm_0 fm_0 nd_0 sm_1_2_3_4_5 nd_1_2_3_4_5 dj_0__1_2_3_4_5 rfl rfl rfl rfl rfl (Nat.le_of_ble_eq_true rfl) rm_30_1_1 ⟨Nat.le_of_ble_eq_true rfl, Nat.le_of_ble_eq_true rfl⟩ gX10_takesLine_4.2.2.2.2.2.2.2.2.1 (fun r3228 u3229 H locs hr3228 hP hD hS => ?_)
    refine Kpdr (ws := [(tby, iA G 240 fby), (tsp, oX8 120 1 tspc (nI ksp)), (tspc, iA G 120 ftsp), (tln, oX8 9 7 tlnc (nI (kln + 1))), (tlnc, iA G 63 (upd (upd (upd (upd (upd (upd ftln (kln * 7 + 1) (-9)) (kln * 7 + 2) (-9)) (kln * 7 + 3) (-9)) (kln * 7 + 4) 0) (kln * 7 + 5) (nI ksp)) (kln * 7 + 6) 0)), (h0, oX10 tby (nI kt) tln tsp (CKD fby kt ks) (nI ks) (nI (TKE fby kt ks)) (nI ks))]) hP hD (fun hP hD => ?_)
    obtain rfl := hr3228
    refine toQ hQ0 ?_
    exact RI (v := 0) hC hP hD hS [5, 0, 3, 4, 1, 2] (ks, nI ks, (kln + 1), upd (upd (upd (upd (upd (upd ftln (kln * 7 + 1) (-9)) (kln * 7 + 2) (-9)) (kln * 7 + 3) (-9)) (kln * 7 + 4) 0) (kln * 7 + 5) (nI ksp)) (kln * 7 + 6) 0, ksp, ftsp, LN0, [], []) rfl rfl (by decide) (Or.inr ⟨rfl, Or.inl ⟨hq3227, rfl⟩, rfl, by (try dsimp only); omega, by (try dsimp only); omega, by (try dsimp only); omega⟩) (by decide +kernel) gX10_takesLine_4.2.2.2.2.2.2.2.2.2
  · have hq3231 := a3226
    refine lv_istore_n (lv' := [(2, .int 0), (1, .int (nI kln)), (0, .ref h0)]) hx hb gX10_takesLine_4.2.2.2.2.1 rfl hl (by decide) rfl (fun ls hl => ?_)
    refine lv_iload_n hx hb gX10_takesLine_4.2.2.2.2.2.1 rfl (lv_at0 hl) ?_
    refine lv_if_ge (tgt := 92) hx hb gX10_takesLine_4.2.2.2.2.2.2.1 (by decide) (fun _ => ?_) (fun c9 => absurd (by decide) c9)
    refine lv_aload_n hx hb gX10_takesLine_5.1 rfl (lv_at2 hl) ?_
    refine gf_X10_20 hC rfl hK hP 0 rfl rfl gX10_takesLine_5.2.1 ?_
    refine lv_iload_n hx hb gX10_takesLine_5.2.2.1 rfl (lv_at1 hl) ?_
    refine lv_iconst (v := 0) hx hb gX10_takesLine_5.2.2.2.1 (by decide) ?_
    refine lv_iload_n hx hb gX10_takesLine_5.2.2.2.2.1 rfl (lv_at0 hl) ?_
    refine vV (wr := [(h0, oX10 tby (nI kt) tln tsp (CKD fby kt ks) (nI ks) (nI (TKE fby kt ks)) tf9), (tby, iA G 240 fby), (tsp, oX8 120 1 tspc (nI ksp)), (tspc, iA G 120 ftsp)]) hC hK hl hP hD hS hA (c_T_set l G tln (nI kln) 0 0 9 7 tlnc (kln + 1) (upd (upd (upd (upd (upd (upd ftln (kln * 7 + 1) (-9)) (kln * 7 + 2) (-9)) (kln * 7 + 3) (-9)) (kln * 7 + 4) 0) (kln * 7 + 5) (nI ksp)) (kln * 7 + 6) 0) (by omega) (by omega) (by omega)) si_X10_66 [4, 5] [0, 1, 2, 3] sm_4_5 fm_4_5 nd_4_5 sm_0_1_2_3 nd_0_1_2_3 dj_4_5__0_1_2_3 rfl rfl rfl rfl rfl (Nat.le_of_ble_eq_true rfl) rm_30_1_4 ⟨Nat.le_of_ble_eq_true rfl, Nat.le_of_ble_eq_true rfl⟩ gX10_takesLine_5.2.2.2.2.2.1 (fun f13234 H locs hr3232 hP hD hS => ?_)
    try dsimp only at hr3232
    refine Kpdr (ws := [(h0, oX10 tby (nI kt) tln tsp (CKD fby kt ks) (nI ks) (nI (TKE fby kt ks)) tf9), (tby, iA G 240 fby), (tsp, oX8 120 1 tspc (nI ksp)), (tspc, iA G 120 ftsp), (tln, oX8 9 7 tlnc (nI (kln + 1))), (tlnc, iA G 63 f13234)]) hP hD (fun hP hD => ?_)
    have w3235 := hr3232
    obtain rfl : upd (upd (upd (upd (upd (upd (upd ftln (kln * 7 + 1) (-9)) (kln * 7 + 2) (-9)) (kln * 7 + 3) (-9)) (kln * 7 + 4) 0) (kln * 7 + 5) (nI ksp)) (kln * 7 + 6) 0) (kln * 7) 0 = f13234 := ((tsj (j := kln) (c := 0) (by omega) (by omega) (by omega) (by decide) rfl).symm.trans w3235)
    refine Kpdr (ws := [(h0, oX10 tby (nI kt) tln tsp (CKD fby kt ks) (nI ks) (nI (TKE fby kt ks)) tf9), (tby, iA G 240 fby), (tsp, oX8 120 1 tspc (nI ksp)), (tspc, iA G 120 ftsp), (tln, oX8 9 7 tlnc (nI (kln + 1))), (tlnc, iA G 63 (upd (upd (upd (upd (upd (upd (upd ftln (kln * 7 + 1) (-9)) (kln * 7 + 2) (-9)) (kln * 7 + 3) (-9)) (kln * 7 + 4) 0) (kln * 7 + 5) (nI ksp)) (kln * 7 + 6) 0) (kln * 7) 0))]) hP hD (fun hP hD => ?_)
    refine lv_aload_n hx hb gX10_takesLine_5.2.2.2.2.2.2.1 rfl (lv_at2 hl) ?_
    refine vV (wr := [(tsp, oX8 120 1 tspc (nI ksp)), (tspc, iA G 120 ftsp), (tln, oX8 9 7 tlnc (nI (kln + 1))), (tlnc, iA G 63 (upd (upd (upd (upd (upd (upd (upd ftln (kln * 7 + 1) (-9)) (kln * 7 + 2) (-9)) (kln * 7 + 3) (-9)) (kln * 7 + 4) 0) (kln * 7 + 5) (nI ksp)) (kln * 7 + 6) 0) (kln * 7) 0))]) hC hK hl hP hD hS hA (t_advT l G h0 tby kt tln tsp ks tf9 fby (hkt) (hks) (hBB)) si_X10_47 [0, 1] [2, 3, 4, 5] sm_0_1 fm_0_1 nd_0_1 sm_2_3_4_5 nd_2_3_4_5 dj_0_1__2_3_4_5 rfl rfl rfl rfl rfl (Nat.le_of_ble_eq_true rfl) rm_30_3_1 ⟨Nat.le_of_ble_eq_true rfl, Nat.le_of_ble_eq_true rfl⟩ gX10_takesLine_5.2.2.2.2.2.2.2.1 (fun u3237 H locs hr3236 hP hD hS => ?_)
    refine Kpdr (ws := [(tsp, oX8 120 1 tspc (nI ksp)), (tspc, iA G 120 ftsp), (tln, oX8 9 7 tlnc (nI (kln + 1))), (tlnc, iA G 63 (upd (upd (upd (upd (upd (upd (upd ftln (kln * 7 + 1) (-9)) (kln * 7 + 2) (-9)) (kln * 7 + 3) (-9)) (kln * 7 + 4) 0) (kln * 7 + 5) (nI ksp)) (kln * 7 + 6) 0) (kln * 7) 0)), (h0, oX10 tby (nI kt) tln tsp (CKD fby kt (NXT fby kt ks)) (nI (NXT fby kt ks)) (nI (TKE fby kt (NXT fby kt ks))) tf9), (tby, iA G 240 fby)]) hP hD (fun hP hD => ?_)
    have xn3238 := NXT.ge (bt := fby) (n := kt) (s := ks) (by omega)
    have hH9 : HD9 (upd (upd (upd (upd (upd (upd (upd ftln (kln * 7 + 1) (-9)) (kln * 7 + 2) (-9)) (kln * 7 + 3) (-9)) (kln * 7 + 4) 0) (kln * 7 + 5) (nI ksp)) (kln * 7 + 6) 0) (kln * 7) 0) (kln * 7) := BEG.h9 (f := ftln) (b := kln * 7) (k := ksp) (v := nI 0)
    refine lv_aload_n hx hb gX10_takesLine_5.2.2.2.2.2.2.2.2.1 rfl (lv_at2 hl) ?_
    refine lv_iload_n hx hb gX10_takesLine_5.2.2.2.2.2.2.2.2.2 rfl (lv_at1 hl) ?_
    refine lv_iload_n hx hb gX10_takesLine_6.1 rfl (lv_at0 hl) ?_
    refine iVo (wr := [(tsp, oX8 120 1 tspc (nI ksp)), (tspc, iA G 120 ftsp)]) hO hC hK hl hP hD hS hA (t_head0 l G K h0 kln tby kt tln tsp (NXT fby kt ks) tf9 fby tlnc (kln + 1) (upd (upd (upd (upd (upd (upd (upd ftln (kln * 7 + 1) (-9)) (kln * 7 + 2) (-9)) (kln * 7 + 3) (-9)) (kln * 7 + 4) 0) (kln * 7 + 5) (nI ksp)) (kln * 7 + 6) 0) (kln * 7) 0) (hkt) (by omega) (hBB) (by omega) (by omega) (hH9)) si_X10_115 [4, 5, 2, 3] [0, 1] sm_4_5_2_3 fm_4_5_2_3 nd_4_5_2_3 sm_0_1 nd_0_1 dj_4_5_2_3__0_1 rfl rfl rfl rfl rfl (Nat.le_of_ble_eq_true rfl) rm_30_8_3 ⟨Nat.le_of_ble_eq_true rfl, Nat.le_of_ble_eq_true rfl⟩ gX10_takesLine_6.2.1 (fun r3239 => Ktu6 fun ks13241 tf13242 gtln3243 x13244 y13245 z13246 => ?_)
    intro H locs hr3239 hP hD hS
    try dsimp only at hr3239
    refine Kpdr (ws := [(tsp, oX8 120 1 tspc (nI ksp)), (tspc, iA G 120 ftsp), (h0, oX10 tby (nI kt) tln tsp (CKD fby kt ks13241) (nI ks13241) (nI (TKE fby kt ks13241)) tf13242), (tby, iA G 240 fby), (tln, oX8 9 7 tlnc (nI (kln + 1))), (tlnc, iA G 63 gtln3243)]) hP hD (fun hP hD => ?_)
    rcases hr3239 with ⟨rfl, a3247⟩ | ⟨rfl, a3247⟩
    · obtain ⟨hq3248, rfl, hq3249⟩ := a3247
      have xl3250 := HDQ.gt hq3248 (by omega)
      refine lv_if_ne (tgt := 117) hx hb gX10_takesLine_6.2.2.1 (by decide) (fun _ => ?_) (fun c9 => absurd c9 (by decide))
      refine lv_iload_n hx hb gX10_takesLine_6.2.2.2.2.2.1 rfl (lv_at0 hl) ?_
      refine lv_iconst (v := 3) hx hb gX10_takesLine_6.2.2.2.2.2.2.1 (by decide) ?_
      refine lv_icmp_eq (tgt := 182) hx hb gX10_takesLine_6.2.2.2.2.2.2.2.1 (by decide) (fun c9 => absurd c9 (by decide)) (fun _ => ?_)
      refine lv_aload_n hx hb gX10_takesLine_6.2.2.2.2.2.2.2.2.1 rfl (lv_at2 hl) ?_
      refine va_ldcS (index := 119) (tx := "if") hx hb hown (hO.2.1 0 (by decide)) gX10_takesLine_6.2.2.2.2.2.2.2.2.2 ?_
      refine pVo hO hS hC hK hl hP hD (t_isName l G K 0 h0 tby kt tln tsp ks13241 tf9 fby (hkt) (by omega) (hBB) ((by decide))) si_X10_102 [2, 3] sm_2_3 fm_2_3 nd_2_3 rfl rfl rfl rfl rfl (Nat.le_of_ble_eq_true rfl) rm_30_6_3 ⟨by first | exact Nat.le_of_ble_eq_true rfl | exact Nat.zero_le _, by first | exact Nat.le_of_ble_eq_true rfl | exact Nat.zero_le _⟩ gX10_takesLine_7.1 (Kors (Keqa fun a3252 => ?_) (Keqa fun a3252 => ?_))
      · have hq3253 := a3252
        have xl3254 : ks13241 + 2 ≤ NXT fby kt ks13241 ∧ NXT fby kt ks13241 ≤ kt := WRD.len hq3253 (by omega)
        refine lv_if_eq (tgt := 182) hx hb gX10_takesLine_7.2.1 (by decide) (fun c9 => absurd c9 (by decide)) (fun _ => ?_)
        refine lv_aload_n hx hb gX10_takesLine_7.2.2.1 rfl (lv_at2 hl) ?_
        refine vV (wr := [(tsp, oX8 120 1 tspc (nI ksp)), (tspc, iA G 120 ftsp), (tln, oX8 9 7 tlnc (nI (kln + 1))), (tlnc, iA G 63 gtln3243)]) hC hK hl hP hD hS hA (t_advT l G h0 tby kt tln tsp ks13241 tf9 fby (hkt) (by omega) (hBB)) si_X10_47 [2, 3] [0, 1, 4, 5] sm_2_3 fm_2_3 nd_2_3 sm_0_1_4_5 nd_0_1_4_5 dj_2_3__0_1_4_5 rfl rfl rfl rfl rfl (Nat.le_of_ble_eq_true rfl) rm_30_3_1 ⟨Nat.le_of_ble_eq_true rfl, Nat.le_of_ble_eq_true rfl⟩ gX10_takesLine_7.2.2.2.1 (fun u3256 H locs hr3255 hP hD hS => ?_)
        refine Kpdr (ws := [(tsp, oX8 120 1 tspc (nI ksp)), (tspc, iA G 120 ftsp), (tln, oX8 9 7 tlnc (nI (kln + 1))), (tlnc, iA G 63 gtln3243), (h0, oX10 tby (nI kt) tln tsp (CKD fby kt (NXT fby kt ks13241)) (nI (NXT fby kt ks13241)) (nI (TKE fby kt (NXT fby kt ks13241))) tf9), (tby, iA G 240 fby)]) hP hD (fun hP hD => ?_)
        have xn3257 := NXT.ge (bt := fby) (n := kt) (s := ks13241) (by omega)
        refine lv_aload_n hx hb gX10_takesLine_7.2.2.2.2.1 rfl (lv_at2 hl) ?_
        refine gf_X10_20 hC rfl hK hP 4 rfl rfl gX10_takesLine_7.2.2.2.2.2.1 ?_
        refine lv_iload_n hx hb gX10_takesLine_7.2.2.2.2.2.2.1 rfl (lv_at1 hl) ?_
        refine lv_iconst (v := 4) hx hb gX10_takesLine_7.2.2.2.2.2.2.2.1 (by decide) ?_
        refine lv_iconst (v := 1) hx hb gX10_takesLine_7.2.2.2.2.2.2.2.2.1 (by decide) ?_
        refine vV (wr := [(tsp, oX8 120 1 tspc (nI ksp)), (tspc, iA G 120 ftsp), (h0, oX10 tby (nI kt) tln tsp (CKD fby kt (NXT fby kt ks13241)) (nI (NXT fby kt ks13241)) (nI (TKE fby kt (NXT fby kt ks13241))) tf9), (tby, iA G 240 fby)]) hC hK hl hP hD hS hA (c_T_set l G tln (nI kln) 4 1 9 7 tlnc (kln + 1) gtln3243 (by omega) (by omega) (by omega)) si_X10_66 [2, 3] [0, 1, 4, 5] sm_2_3 fm_2_3 nd_2_3 sm_0_1_4_5 nd_0_1_4_5 dj_2_3__0_1_4_5 rfl rfl rfl rfl rfl (Nat.le_of_ble_eq_true rfl) rm_30_1_4 ⟨Nat.le_of_ble_eq_true rfl, Nat.le_of_ble_eq_true rfl⟩ gX10_takesLine_7.2.2.2.2.2.2.2.2.2 (fun f13260 H locs hr3258 hP hD hS => ?_)
        try dsimp only at hr3258
        refine Kpdr (ws := [(tsp, oX8 120 1 tspc (nI ksp)), (tspc, iA G 120 ftsp), (h0, oX10 tby (nI kt) tln tsp (CKD fby kt (NXT fby kt ks13241)) (nI (NXT fby kt ks13241)) (nI (TKE fby kt (NXT fby kt ks13241))) tf9), (tby, iA G 240 fby), (tln, oX8 9 7 tlnc (nI (kln + 1))), (tlnc, iA G 63 f13260)]) hP hD (fun hP hD => ?_)
        have w3261 := hr3258
        obtain rfl : upd gtln3243 (kln * 7 + 4) 1 = f13260 := ((tsj (j := kln) (c := 4) (by omega) (by omega) (by omega) (by decide) rfl).symm.trans w3261)
        refine Kpdr (ws := [(tsp, oX8 120 1 tspc (nI ksp)), (tspc, iA G 120 ftsp), (h0, oX10 tby (nI kt) tln tsp (CKD fby kt (NXT fby kt ks13241)) (nI (NXT fby kt ks13241)) (nI (TKE fby kt (NXT fby kt ks13241))) tf9), (tby, iA G 240 fby), (tln, oX8 9 7 tlnc (nI (kln + 1))), (tlnc, iA G 63 (upd gtln3243 (kln * 7 + 4) 1))]) hP hD (fun hP hD => ?_)
        refine lv_aload_n hx hb gX10_takesLine_8.1 rfl (lv_at2 hl) ?_
        refine lv_iconst (v := 0) hx hb gX10_takesLine_8.2.1 (by decide) ?_
        refine iVo (wr := [(tln, oX8 9 7 tlnc (nI (kln + 1))), (tlnc, iA G 63 (upd gtln3243 (kln * 7 + 4) 1))]) hO hC hK hl hP hD hS hA (t_cond l G K 4 h0 0 tby kt tln tsp (NXT fby kt ks13241) tf9 fby tspc ksp ftsp cs rs (by omega) (by omega) (hBB) (hST) (by omega) (by omega)) si_X10_121 [2, 3, 0, 1] [4, 5] sm_2_3_0_1 fm_2_3_0_1 nd_2_3_0_1 sm_4_5 nd_4_5 dj_2_3_0_1__4_5 rfl rfl rfl rfl rfl (Nat.le_of_ble_eq_true rfl) ⟨Nat.le_of_ble_eq_true rfl, Nat.le_of_ble_eq_true rfl⟩ ⟨Nat.le_of_ble_eq_true rfl, Nat.le_of_ble_eq_true rfl⟩ gX10_takesLine_8.2.2.1 (fun r3262 => Ktu6 fun ks13264 tf13265 ksp13266 gtsp3267 c13268 r13269 => ?_)
        intro H locs hr3262 hP hD hS
        try dsimp only at hr3262
        refine Kpdr (ws := [(tln, oX8 9 7 tlnc (nI (kln + 1))), (tlnc, iA G 63 (upd gtln3243 (kln * 7 + 4) 1)), (h0, oX10 tby (nI kt) tln tsp (CKD fby kt ks13264) (nI ks13264) (nI (TKE fby kt ks13264)) tf13265), (tby, iA G 240 fby), (tsp, oX8 120 1 tspc (nI ksp13266)), (tspc, iA G 120 gtsp3267)]) hP hD (fun hP hD => ?_)
        rcases hr3262 with ⟨rfl, a3270⟩ | ⟨rfl, a3270⟩
        · obtain ⟨hq3271, hq3272, rfl⟩ := a3270
          have xl3273 := RT.len hq3271 (by decide) (by omega)
          have xl3274 := hq3272.1
          refine lv_if_ne (tgt := 155) hx hb gX10_takesLine_8.2.2.2.1 (by decide) (fun _ => ?_) (fun c9 => absurd c9 (by decide))
          refine lv_aload_n hx hb gX10_takesLine_8.2.2.2.2.2.2.1 rfl (lv_at2 hl) ?_
          refine gf_X10_20 hC rfl hK hP 2 rfl rfl gX10_takesLine_8.2.2.2.2.2.2.2.1 ?_
          refine lv_iload_n hx hb gX10_takesLine_8.2.2.2.2.2.2.2.2.1 rfl (lv_at1 hl) ?_
          refine lv_bipush (v := 6) hx hb gX10_takesLine_8.2.2.2.2.2.2.2.2.2 (by decide) ?_
          refine lv_aload_n hx hb gX10_takesLine_9.1 rfl (lv_at2 hl) ?_
          refine gf_X10_24 hC rfl hK hP 2 rfl rfl gX10_takesLine_9.2.1 ?_
          refine pV hC hK hl hP hD (c_T_count l G tsp 120 1 tspc ksp13266) si_X10_71 [4] sm_4 fm_4 nd_4 rfl rfl rfl rfl rfl (Nat.le_of_ble_eq_true rfl) rm_30_1_1 ⟨by first | exact Nat.le_of_ble_eq_true rfl | exact Nat.zero_le _, by first | exact Nat.le_of_ble_eq_true rfl | exact Nat.zero_le _⟩ gX10_takesLine_9.2.2.1 (Keqr ?_)
          refine lv_aload_n hx hb gX10_takesLine_9.2.2.2.1 rfl (lv_at2 hl) ?_
          refine gf_X10_20 hC rfl hK hP 2 rfl rfl gX10_takesLine_9.2.2.2.2.1 ?_
          refine lv_iload_n hx hb gX10_takesLine_9.2.2.2.2.2.1 rfl (lv_at1 hl) ?_
          refine lv_iconst (v := 5) hx hb gX10_takesLine_9.2.2.2.2.2.2.1 (by decide) ?_
          refine pV hC hK hl hP hD (c_T_at l G tln (nI kln) 5 9 7 tlnc (kln + 1) (upd gtln3243 (kln * 7 + 4) 1) (by omega) (by omega) (by omega)) si_X10_74 [0, 1] sm_0_1 fm_0_1 nd_0_1 rfl rfl rfl rfl rfl (Nat.le_of_ble_eq_true rfl) rm_30_1_3 ⟨by first | exact Nat.le_of_ble_eq_true rfl | exact Nat.zero_le _, by first | exact Nat.le_of_ble_eq_true rfl | exact Nat.zero_le _⟩ gX10_takesLine_9.2.2.2.2.2.2.2.1 (fun r3277 hr3277 => ?_)
          refine eqi (x1 := nI ksp) (hr3277.trans ((tatr (j := kln) (c := 5) (by omega) (by omega) (by decide) (by decide) rfl).trans ((upd_ne (by omega)).trans ((hq3249.2.2.2 _ (by omega) (by omega) (by omega)).trans (BEG.v (f := ftln) (b := kln * 7) (k := ksp) (v := nI 0)).2.2.1)))) ?_
          refine lv_isub hx hb gX10_takesLine_9.2.2.2.2.2.2.2.2.1 ?_
          refine eqi (x1 := nI (ksp13266 - ksp)) (nI_subT (by omega)) ?_
          refine vV (wr := [(h0, oX10 tby (nI kt) tln tsp (CKD fby kt ks13264) (nI ks13264) (nI (TKE fby kt ks13264)) tf9), (tby, iA G 240 fby), (tsp, oX8 120 1 tspc (nI ksp13266)), (tspc, iA G 120 gtsp3267)]) hC hK hl hP hD hS hA (c_T_set l G tln (nI kln) 6 (nI (ksp13266 - ksp)) 9 7 tlnc (kln + 1) (upd gtln3243 (kln * 7 + 4) 1) (by omega) (by omega) (by omega)) si_X10_66 [0, 1] [2, 3, 4, 5] sm_0_1 fm_0_1 nd_0_1 sm_2_3_4_5 nd_2_3_4_5 dj_0_1__2_3_4_5 rfl rfl rfl rfl rfl (Nat.le_of_ble_eq_true rfl) rm_30_1_4 ⟨Nat.le_of_ble_eq_true rfl, Nat.le_of_ble_eq_true rfl⟩ gX10_takesLine_9.2.2.2.2.2.2.2.2.2 (fun f13281 H locs hr3279 hP hD hS => ?_)
          try dsimp only at hr3279
          refine Kpdr (ws := [(h0, oX10 tby (nI kt) tln tsp (CKD fby kt ks13264) (nI ks13264) (nI (TKE fby kt ks13264)) tf9), (tby, iA G 240 fby), (tsp, oX8 120 1 tspc (nI ksp13266)), (tspc, iA G 120 gtsp3267), (tln, oX8 9 7 tlnc (nI (kln + 1))), (tlnc, iA G 63 f13281)]) hP hD (fun hP hD => ?_)
          have w3282 := hr3279
          obtain rfl : upd (upd gtln3243 (kln * 7 + 4) 1) (kln * 7 + 6) (nI (ksp13266 - ksp)) = f13281 := ((tsj (j := kln) (c := 6) (by omega) (by omega) (by omega) (by decide) rfl).symm.trans w3282)
          refine Kpdr (ws := [(h0, oX10 tby (nI kt) tln tsp (CKD fby kt ks13264) (nI ks13264) (nI (TKE fby kt ks13264)) tf9), (tby, iA G 240 fby), (tsp, oX8 120 1 tspc (nI ksp13266)), (tspc, iA G 120 gtsp3267), (tln, oX8 9 7 tlnc (nI (kln + 1))), (tlnc, iA G 63 (upd (upd gtln3243 (kln * 7 + 4) 1) (kln * 7 + 6) (nI (ksp13266 - ksp))))]) hP hD (fun hP hD => ?_)
          refine lv_aload_n hx hb gX10_takesLine_10.1 rfl (lv_at2 hl) ?_
          refine lv_bipush (v := 59) hx hb gX10_takesLine_10.2.1 (by decide) ?_
          refine iV (wr := [(tsp, oX8 120 1 tspc (nI ksp13266)), (tspc, iA G 120 gtsp3267), (tln, oX8 9 7 tlnc (nI (kln + 1))), (tlnc, iA G 63 (upd (upd gtln3243 (kln * 7 + 4) 1) (kln * 7 + 6) (nI (ksp13266 - ksp))))]) hC hK hl hP hD hS hA (t_takesByte l G h0 59 tby kt tln tsp ks13264 tf9 fby (hkt) (by omega) (hBB) (by decide)) si_X10_124 [0, 1] [2, 3, 4, 5] sm_0_1 fm_0_1 nd_0_1 sm_2_3_4_5 nd_2_3_4_5 dj_0_1__2_3_4_5 rfl rfl rfl rfl rfl (Nat.le_of_ble_eq_true rfl) rm_30_4_2 ⟨Nat.le_of_ble_eq_true rfl, Nat.le_of_ble_eq_true rfl⟩ gX10_takesLine_10.2.2.1 (fun r3283 => Ktu2 fun ks13285 tf13286 => ?_)
          intro H locs hr3283 hP hD hS
          try dsimp only at hr3283
          refine Kpdr (ws := [(tsp, oX8 120 1 tspc (nI ksp13266)), (tspc, iA G 120 gtsp3267), (tln, oX8 9 7 tlnc (nI (kln + 1))), (tlnc, iA G 63 (upd (upd gtln3243 (kln * 7 + 4) 1) (kln * 7 + 6) (nI (ksp13266 - ksp)))), (h0, oX10 tby (nI kt) tln tsp (CKD fby kt ks13285) (nI ks13285) (nI (TKE fby kt ks13285)) tf13286), (tby, iA G 240 fby)]) hP hD (fun hP hD => ?_)
          rcases hr3283 with ⟨rfl, a3287⟩ | ⟨rfl, a3287⟩
          · obtain ⟨hq3288, rfl, rfl⟩ := a3287
            have xl3289 := SGN.len hq3288 (by omega)
            refine toQ hQ0 ?_
            exact RI (v := 1) hC hP hD hS [4, 5, 2, 3, 0, 1] ((NXT fby kt ks13264), tf9, (kln + 1), upd (upd gtln3243 (kln * 7 + 4) 1) (kln * 7 + 6) (nI (ksp13266 - ksp)), ksp13266, gtsp3267, (0, x13244, y13245, z13246, 1, cs.length, c13268.length, rs.length, r13269.length), c13268, r13269) rfl rfl (by decide) (Or.inl ⟨rfl, Or.inr ⟨0, hq3231, Or.inr ⟨ks13241, x13244, y13245, z13246, hq3248, Or.inr ⟨⟨by decide, hq3253⟩, Or.inr ⟨ks13264, c13268, r13269, hq3271, Or.inr ⟨hq3288, rfl⟩⟩⟩⟩⟩, hq3272, (by rw [hs1, hq3272.1]; exact LNW.yes hq3249 _ _), rfl, rfl, by (try dsimp only); omega, by (try dsimp only); omega⟩) (by decide +kernel) gX10_takesLine_10.2.2.2
          · obtain ⟨hq3290, rfl, rfl⟩ := a3287
            refine toQ hQ0 ?_
            exact RI (v := 0) hC hP hD hS [4, 5, 2, 3, 0, 1] (ks13264, nI ks13264, (kln + 1), upd (upd gtln3243 (kln * 7 + 4) 1) (kln * 7 + 6) (nI (ksp13266 - ksp)), ksp13266, gtsp3267, LN0, [], []) rfl rfl (by decide) (Or.inr ⟨rfl, Or.inr ⟨0, hq3231, Or.inr ⟨ks13241, x13244, y13245, z13246, hq3248, Or.inr ⟨⟨by decide, hq3253⟩, Or.inr ⟨ks13264, c13268, r13269, hq3271, Or.inl ⟨hq3290, rfl⟩⟩⟩⟩⟩, rfl, by (try dsimp only); omega, by (try dsimp only); omega, by (try dsimp only); omega⟩) (by decide +kernel) gX10_takesLine_10.2.2.2
        · obtain ⟨hq3291, rfl, hq3292, hq3293⟩ := a3270
          refine lv_if_ne (tgt := 155) hx hb gX10_takesLine_8.2.2.2.1 (by decide) (fun c9 => absurd (by decide) c9) (fun _ => ?_)
          refine lv_iconst (v := 0) hx hb gX10_takesLine_8.2.2.2.2.1 (by decide) ?_
          refine toQ hQ0 ?_
          exact RI (v := 0) hC hP hD hS [2, 3, 0, 1, 4, 5] (ks13264, nI ks13264, (kln + 1), upd gtln3243 (kln * 7 + 4) 1, ksp13266, gtsp3267, LN0, [], []) rfl rfl (by decide) (Or.inr ⟨rfl, Or.inr ⟨0, hq3231, Or.inr ⟨ks13241, x13244, y13245, z13246, hq3248, Or.inr ⟨⟨by decide, hq3253⟩, Or.inl ⟨_, hq3291, rfl⟩⟩⟩⟩, rfl, by (try dsimp only); omega, by (try dsimp only); omega, by (try dsimp only); omega⟩) (by decide +kernel) gX10_takesLine_8.2.2.2.2.2.1
      · have hq3294 := a3252
        refine lv_if_eq (tgt := 182) hx hb gX10_takesLine_7.2.1 (by decide) (fun _ => ?_) (fun c9 => absurd (by decide) c9)
        refine lv_aload_n hx hb gX10_takesLine_10.1 rfl (lv_at2 hl) ?_
        refine lv_bipush (v := 59) hx hb gX10_takesLine_10.2.1 (by decide) ?_
        refine iV (wr := [(tsp, oX8 120 1 tspc (nI ksp)), (tspc, iA G 120 ftsp), (tln, oX8 9 7 tlnc (nI (kln + 1))), (tlnc, iA G 63 gtln3243)]) hC hK hl hP hD hS hA (t_takesByte l G h0 59 tby kt tln tsp ks13241 tf9 fby (hkt) (by omega) (hBB) (by decide)) si_X10_124 [2, 3] [0, 1, 4, 5] sm_2_3 fm_2_3 nd_2_3 sm_0_1_4_5 nd_0_1_4_5 dj_2_3__0_1_4_5 rfl rfl rfl rfl rfl (Nat.le_of_ble_eq_true rfl) rm_30_4_2 ⟨Nat.le_of_ble_eq_true rfl, Nat.le_of_ble_eq_true rfl⟩ gX10_takesLine_10.2.2.1 (fun r3295 => Ktu2 fun ks13297 tf13298 => ?_)
        intro H locs hr3295 hP hD hS
        try dsimp only at hr3295
        refine Kpdr (ws := [(tsp, oX8 120 1 tspc (nI ksp)), (tspc, iA G 120 ftsp), (tln, oX8 9 7 tlnc (nI (kln + 1))), (tlnc, iA G 63 gtln3243), (h0, oX10 tby (nI kt) tln tsp (CKD fby kt ks13297) (nI ks13297) (nI (TKE fby kt ks13297)) tf13298), (tby, iA G 240 fby)]) hP hD (fun hP hD => ?_)
        rcases hr3295 with ⟨rfl, a3299⟩ | ⟨rfl, a3299⟩
        · obtain ⟨hq3300, rfl, rfl⟩ := a3299
          have xl3301 := SGN.len hq3300 (by omega)
          refine toQ hQ0 ?_
          exact RI (v := 1) hC hP hD hS [4, 5, 2, 3, 0, 1] ((NXT fby kt ks13241), tf9, (kln + 1), gtln3243, ksp, ftsp, (0, x13244, y13245, z13246, 0, cs.length, cs.length, rs.length, rs.length), cs, rs) rfl rfl (by decide) (Or.inl ⟨rfl, Or.inr ⟨0, hq3231, Or.inr ⟨ks13241, x13244, y13245, z13246, hq3248, Or.inl ⟨(fun h9 => hq3294 h9.2), Or.inr ⟨hq3300, rfl⟩⟩⟩⟩, hST, (by rw [hs1]; exact LNW.no hq3249 _ _), rfl, rfl, by (try dsimp only); omega, by (try dsimp only); omega⟩) (by decide +kernel) gX10_takesLine_10.2.2.2
        · obtain ⟨hq3302, rfl, rfl⟩ := a3299
          refine toQ hQ0 ?_
          exact RI (v := 0) hC hP hD hS [4, 5, 2, 3, 0, 1] (ks13241, nI ks13241, (kln + 1), gtln3243, ksp, ftsp, LN0, [], []) rfl rfl (by decide) (Or.inr ⟨rfl, Or.inr ⟨0, hq3231, Or.inr ⟨ks13241, x13244, y13245, z13246, hq3248, Or.inl ⟨(fun h9 => hq3294 h9.2), Or.inl ⟨hq3302, rfl⟩⟩⟩⟩, rfl, by (try dsimp only); omega, by (try dsimp only); omega, by (try dsimp only); omega⟩) (by decide +kernel) gX10_takesLine_10.2.2.2
    · obtain ⟨hq3303, rfl, hq3304⟩ := a3247
      refine lv_if_ne (tgt := 117) hx hb gX10_takesLine_6.2.2.1 (by decide) (fun c9 => absurd (by decide) c9) (fun _ => ?_)
      refine lv_iconst (v := 0) hx hb gX10_takesLine_6.2.2.2.1 (by decide) ?_
      refine toQ hQ0 ?_
      exact RI (v := 0) hC hP hD hS [2, 3, 4, 5, 0, 1] (ks13241, nI ks13241, (kln + 1), gtln3243, ksp, ftsp, LN0, [], []) rfl rfl (by decide) (Or.inr ⟨rfl, Or.inr ⟨0, hq3231, Or.inl ⟨_, hq3303, rfl⟩⟩, rfl, by (try dsimp only); omega, by (try dsimp only); omega, by (try dsimp only); omega⟩) (by decide +kernel) gX10_takesLine_6.2.2.2.2.1
  · have hq3305 := a3226
    refine lv_istore_n (lv' := [(2, .int 1), (1, .int (nI kln)), (0, .ref h0)]) hx hb gX10_takesLine_4.2.2.2.2.1 rfl hl (by decide) rfl (fun ls hl => ?_)
    refine lv_iload_n hx hb gX10_takesLine_4.2.2.2.2.2.1 rfl (lv_at0 hl) ?_
    refine lv_if_ge (tgt := 92) hx hb gX10_takesLine_4.2.2.2.2.2.2.1 (by decide) (fun _ => ?_) (fun c9 => absurd (by decide) c9)
    refine lv_aload_n hx hb gX10_takesLine_5.1 rfl (lv_at2 hl) ?_
    refine gf_X10_20 hC rfl hK hP 0 rfl rfl gX10_takesLine_5.2.1 ?_
    refine lv_iload_n hx hb gX10_takesLine_5.2.2.1 rfl (lv_at1 hl) ?_
    refine lv_iconst (v := 0) hx hb gX10_takesLine_5.2.2.2.1 (by decide) ?_
    refine lv_iload_n hx hb gX10_takesLine_5.2.2.2.2.1 rfl (lv_at0 hl) ?_
    refine vV (wr := [(h0, oX10 tby (nI kt) tln tsp (CKD fby kt ks) (nI ks) (nI (TKE fby kt ks)) tf9), (tby, iA G 240 fby), (tsp, oX8 120 1 tspc (nI ksp)), (tspc, iA G 120 ftsp)]) hC hK hl hP hD hS hA (c_T_set l G tln (nI kln) 0 1 9 7 tlnc (kln + 1) (upd (upd (upd (upd (upd (upd ftln (kln * 7 + 1) (-9)) (kln * 7 + 2) (-9)) (kln * 7 + 3) (-9)) (kln * 7 + 4) 0) (kln * 7 + 5) (nI ksp)) (kln * 7 + 6) 0) (by omega) (by omega) (by omega)) si_X10_66 [4, 5] [0, 1, 2, 3] sm_4_5 fm_4_5 nd_4_5 sm_0_1_2_3 nd_0_1_2_3 dj_4_5__0_1_2_3 rfl rfl rfl rfl rfl (Nat.le_of_ble_eq_true rfl) rm_30_1_4 ⟨Nat.le_of_ble_eq_true rfl, Nat.le_of_ble_eq_true rfl⟩ gX10_takesLine_5.2.2.2.2.2.1 (fun f13308 H locs hr3306 hP hD hS => ?_)
    try dsimp only at hr3306
    refine Kpdr (ws := [(h0, oX10 tby (nI kt) tln tsp (CKD fby kt ks) (nI ks) (nI (TKE fby kt ks)) tf9), (tby, iA G 240 fby), (tsp, oX8 120 1 tspc (nI ksp)), (tspc, iA G 120 ftsp), (tln, oX8 9 7 tlnc (nI (kln + 1))), (tlnc, iA G 63 f13308)]) hP hD (fun hP hD => ?_)
    have w3309 := hr3306
    obtain rfl : upd (upd (upd (upd (upd (upd (upd ftln (kln * 7 + 1) (-9)) (kln * 7 + 2) (-9)) (kln * 7 + 3) (-9)) (kln * 7 + 4) 0) (kln * 7 + 5) (nI ksp)) (kln * 7 + 6) 0) (kln * 7) 1 = f13308 := ((tsj (j := kln) (c := 0) (by omega) (by omega) (by omega) (by decide) rfl).symm.trans w3309)
    refine Kpdr (ws := [(h0, oX10 tby (nI kt) tln tsp (CKD fby kt ks) (nI ks) (nI (TKE fby kt ks)) tf9), (tby, iA G 240 fby), (tsp, oX8 120 1 tspc (nI ksp)), (tspc, iA G 120 ftsp), (tln, oX8 9 7 tlnc (nI (kln + 1))), (tlnc, iA G 63 (upd (upd (upd (upd (upd (upd (upd ftln (kln * 7 + 1) (-9)) (kln * 7 + 2) (-9)) (kln * 7 + 3) (-9)) (kln * 7 + 4) 0) (kln * 7 + 5) (nI ksp)) (kln * 7 + 6) 0) (kln * 7) 1))]) hP hD (fun hP hD => ?_)
    refine lv_aload_n hx hb gX10_takesLine_5.2.2.2.2.2.2.1 rfl (lv_at2 hl) ?_
    refine vV (wr := [(tsp, oX8 120 1 tspc (nI ksp)), (tspc, iA G 120 ftsp), (tln, oX8 9 7 tlnc (nI (kln + 1))), (tlnc, iA G 63 (upd (upd (upd (upd (upd (upd (upd ftln (kln * 7 + 1) (-9)) (kln * 7 + 2) (-9)) (kln * 7 + 3) (-9)) (kln * 7 + 4) 0) (kln * 7 + 5) (nI ksp)) (kln * 7 + 6) 0) (kln * 7) 1))]) hC hK hl hP hD hS hA (t_advT l G h0 tby kt tln tsp ks tf9 fby (hkt) (hks) (hBB)) si_X10_47 [0, 1] [2, 3, 4, 5] sm_0_1 fm_0_1 nd_0_1 sm_2_3_4_5 nd_2_3_4_5 dj_0_1__2_3_4_5 rfl rfl rfl rfl rfl (Nat.le_of_ble_eq_true rfl) rm_30_3_1 ⟨Nat.le_of_ble_eq_true rfl, Nat.le_of_ble_eq_true rfl⟩ gX10_takesLine_5.2.2.2.2.2.2.2.1 (fun u3311 H locs hr3310 hP hD hS => ?_)
    refine Kpdr (ws := [(tsp, oX8 120 1 tspc (nI ksp)), (tspc, iA G 120 ftsp), (tln, oX8 9 7 tlnc (nI (kln + 1))), (tlnc, iA G 63 (upd (upd (upd (upd (upd (upd (upd ftln (kln * 7 + 1) (-9)) (kln * 7 + 2) (-9)) (kln * 7 + 3) (-9)) (kln * 7 + 4) 0) (kln * 7 + 5) (nI ksp)) (kln * 7 + 6) 0) (kln * 7) 1)), (h0, oX10 tby (nI kt) tln tsp (CKD fby kt (NXT fby kt ks)) (nI (NXT fby kt ks)) (nI (TKE fby kt (NXT fby kt ks))) tf9), (tby, iA G 240 fby)]) hP hD (fun hP hD => ?_)
    have xn3312 := NXT.ge (bt := fby) (n := kt) (s := ks) (by omega)
    have hH9 : HD9 (upd (upd (upd (upd (upd (upd (upd ftln (kln * 7 + 1) (-9)) (kln * 7 + 2) (-9)) (kln * 7 + 3) (-9)) (kln * 7 + 4) 0) (kln * 7 + 5) (nI ksp)) (kln * 7 + 6) 0) (kln * 7) 1) (kln * 7) := BEG.h9 (f := ftln) (b := kln * 7) (k := ksp) (v := nI 1)
    refine lv_aload_n hx hb gX10_takesLine_5.2.2.2.2.2.2.2.2.1 rfl (lv_at2 hl) ?_
    refine lv_iload_n hx hb gX10_takesLine_5.2.2.2.2.2.2.2.2.2 rfl (lv_at1 hl) ?_
    refine lv_iload_n hx hb gX10_takesLine_6.1 rfl (lv_at0 hl) ?_
    refine iVo (wr := [(tsp, oX8 120 1 tspc (nI ksp)), (tspc, iA G 120 ftsp)]) hO hC hK hl hP hD hS hA (t_head1 l G K h0 kln tby kt tln tsp (NXT fby kt ks) tf9 fby tlnc (kln + 1) (upd (upd (upd (upd (upd (upd (upd ftln (kln * 7 + 1) (-9)) (kln * 7 + 2) (-9)) (kln * 7 + 3) (-9)) (kln * 7 + 4) 0) (kln * 7 + 5) (nI ksp)) (kln * 7 + 6) 0) (kln * 7) 1) (hkt) (by omega) (hBB) (by omega) (by omega) (hH9)) si_X10_115 [4, 5, 2, 3] [0, 1] sm_4_5_2_3 fm_4_5_2_3 nd_4_5_2_3 sm_0_1 nd_0_1 dj_4_5_2_3__0_1 rfl rfl rfl rfl rfl (Nat.le_of_ble_eq_true rfl) rm_30_8_3 ⟨Nat.le_of_ble_eq_true rfl, Nat.le_of_ble_eq_true rfl⟩ gX10_takesLine_6.2.1 (fun r3313 => Ktu6 fun ks13315 tf13316 gtln3317 x13318 y13319 z13320 => ?_)
    intro H locs hr3313 hP hD hS
    try dsimp only at hr3313
    refine Kpdr (ws := [(tsp, oX8 120 1 tspc (nI ksp)), (tspc, iA G 120 ftsp), (h0, oX10 tby (nI kt) tln tsp (CKD fby kt ks13315) (nI ks13315) (nI (TKE fby kt ks13315)) tf13316), (tby, iA G 240 fby), (tln, oX8 9 7 tlnc (nI (kln + 1))), (tlnc, iA G 63 gtln3317)]) hP hD (fun hP hD => ?_)
    rcases hr3313 with ⟨rfl, a3321⟩ | ⟨rfl, a3321⟩
    · obtain ⟨hq3322, rfl, hq3323⟩ := a3321
      have xl3324 := HDQ.gt hq3322 (by omega)
      refine lv_if_ne (tgt := 117) hx hb gX10_takesLine_6.2.2.1 (by decide) (fun _ => ?_) (fun c9 => absurd c9 (by decide))
      refine lv_iload_n hx hb gX10_takesLine_6.2.2.2.2.2.1 rfl (lv_at0 hl) ?_
      refine lv_iconst (v := 3) hx hb gX10_takesLine_6.2.2.2.2.2.2.1 (by decide) ?_
      refine lv_icmp_eq (tgt := 182) hx hb gX10_takesLine_6.2.2.2.2.2.2.2.1 (by decide) (fun c9 => absurd c9 (by decide)) (fun _ => ?_)
      refine lv_aload_n hx hb gX10_takesLine_6.2.2.2.2.2.2.2.2.1 rfl (lv_at2 hl) ?_
      refine va_ldcS (index := 119) (tx := "if") hx hb hown (hO.2.1 0 (by decide)) gX10_takesLine_6.2.2.2.2.2.2.2.2.2 ?_
      refine pVo hO hS hC hK hl hP hD (t_isName l G K 0 h0 tby kt tln tsp ks13315 tf9 fby (hkt) (by omega) (hBB) ((by decide))) si_X10_102 [2, 3] sm_2_3 fm_2_3 nd_2_3 rfl rfl rfl rfl rfl (Nat.le_of_ble_eq_true rfl) rm_30_6_3 ⟨by first | exact Nat.le_of_ble_eq_true rfl | exact Nat.zero_le _, by first | exact Nat.le_of_ble_eq_true rfl | exact Nat.zero_le _⟩ gX10_takesLine_7.1 (Kors (Keqa fun a3326 => ?_) (Keqa fun a3326 => ?_))
      · have hq3327 := a3326
        have xl3328 : ks13315 + 2 ≤ NXT fby kt ks13315 ∧ NXT fby kt ks13315 ≤ kt := WRD.len hq3327 (by omega)
        refine lv_if_eq (tgt := 182) hx hb gX10_takesLine_7.2.1 (by decide) (fun c9 => absurd c9 (by decide)) (fun _ => ?_)
        refine lv_aload_n hx hb gX10_takesLine_7.2.2.1 rfl (lv_at2 hl) ?_
        refine vV (wr := [(tsp, oX8 120 1 tspc (nI ksp)), (tspc, iA G 120 ftsp), (tln, oX8 9 7 tlnc (nI (kln + 1))), (tlnc, iA G 63 gtln3317)]) hC hK hl hP hD hS hA (t_advT l G h0 tby kt tln tsp ks13315 tf9 fby (hkt) (by omega) (hBB)) si_X10_47 [2, 3] [0, 1, 4, 5] sm_2_3 fm_2_3 nd_2_3 sm_0_1_4_5 nd_0_1_4_5 dj_2_3__0_1_4_5 rfl rfl rfl rfl rfl (Nat.le_of_ble_eq_true rfl) rm_30_3_1 ⟨Nat.le_of_ble_eq_true rfl, Nat.le_of_ble_eq_true rfl⟩ gX10_takesLine_7.2.2.2.1 (fun u3330 H locs hr3329 hP hD hS => ?_)
        refine Kpdr (ws := [(tsp, oX8 120 1 tspc (nI ksp)), (tspc, iA G 120 ftsp), (tln, oX8 9 7 tlnc (nI (kln + 1))), (tlnc, iA G 63 gtln3317), (h0, oX10 tby (nI kt) tln tsp (CKD fby kt (NXT fby kt ks13315)) (nI (NXT fby kt ks13315)) (nI (TKE fby kt (NXT fby kt ks13315))) tf9), (tby, iA G 240 fby)]) hP hD (fun hP hD => ?_)
        have xn3331 := NXT.ge (bt := fby) (n := kt) (s := ks13315) (by omega)
        refine lv_aload_n hx hb gX10_takesLine_7.2.2.2.2.1 rfl (lv_at2 hl) ?_
        refine gf_X10_20 hC rfl hK hP 4 rfl rfl gX10_takesLine_7.2.2.2.2.2.1 ?_
        refine lv_iload_n hx hb gX10_takesLine_7.2.2.2.2.2.2.1 rfl (lv_at1 hl) ?_
        refine lv_iconst (v := 4) hx hb gX10_takesLine_7.2.2.2.2.2.2.2.1 (by decide) ?_
        refine lv_iconst (v := 1) hx hb gX10_takesLine_7.2.2.2.2.2.2.2.2.1 (by decide) ?_
        refine vV (wr := [(tsp, oX8 120 1 tspc (nI ksp)), (tspc, iA G 120 ftsp), (h0, oX10 tby (nI kt) tln tsp (CKD fby kt (NXT fby kt ks13315)) (nI (NXT fby kt ks13315)) (nI (TKE fby kt (NXT fby kt ks13315))) tf9), (tby, iA G 240 fby)]) hC hK hl hP hD hS hA (c_T_set l G tln (nI kln) 4 1 9 7 tlnc (kln + 1) gtln3317 (by omega) (by omega) (by omega)) si_X10_66 [2, 3] [0, 1, 4, 5] sm_2_3 fm_2_3 nd_2_3 sm_0_1_4_5 nd_0_1_4_5 dj_2_3__0_1_4_5 rfl rfl rfl rfl rfl (Nat.le_of_ble_eq_true rfl) rm_30_1_4 ⟨Nat.le_of_ble_eq_true rfl, Nat.le_of_ble_eq_true rfl⟩ gX10_takesLine_7.2.2.2.2.2.2.2.2.2 (fun f13334 H locs hr3332 hP hD hS => ?_)
        try dsimp only at hr3332
        refine Kpdr (ws := [(tsp, oX8 120 1 tspc (nI ksp)), (tspc, iA G 120 ftsp), (h0, oX10 tby (nI kt) tln tsp (CKD fby kt (NXT fby kt ks13315)) (nI (NXT fby kt ks13315)) (nI (TKE fby kt (NXT fby kt ks13315))) tf9), (tby, iA G 240 fby), (tln, oX8 9 7 tlnc (nI (kln + 1))), (tlnc, iA G 63 f13334)]) hP hD (fun hP hD => ?_)
        have w3335 := hr3332
        obtain rfl : upd gtln3317 (kln * 7 + 4) 1 = f13334 := ((tsj (j := kln) (c := 4) (by omega) (by omega) (by omega) (by decide) rfl).symm.trans w3335)
        refine Kpdr (ws := [(tsp, oX8 120 1 tspc (nI ksp)), (tspc, iA G 120 ftsp), (h0, oX10 tby (nI kt) tln tsp (CKD fby kt (NXT fby kt ks13315)) (nI (NXT fby kt ks13315)) (nI (TKE fby kt (NXT fby kt ks13315))) tf9), (tby, iA G 240 fby), (tln, oX8 9 7 tlnc (nI (kln + 1))), (tlnc, iA G 63 (upd gtln3317 (kln * 7 + 4) 1))]) hP hD (fun hP hD => ?_)
        refine lv_aload_n hx hb gX10_takesLine_8.1 rfl (lv_at2 hl) ?_
        refine lv_iconst (v := 0) hx hb gX10_takesLine_8.2.1 (by decide) ?_
        refine iVo (wr := [(tln, oX8 9 7 tlnc (nI (kln + 1))), (tlnc, iA G 63 (upd gtln3317 (kln * 7 + 4) 1))]) hO hC hK hl hP hD hS hA (t_cond l G K 4 h0 0 tby kt tln tsp (NXT fby kt ks13315) tf9 fby tspc ksp ftsp cs rs (by omega) (by omega) (hBB) (hST) (by omega) (by omega)) si_X10_121 [2, 3, 0, 1] [4, 5] sm_2_3_0_1 fm_2_3_0_1 nd_2_3_0_1 sm_4_5 nd_4_5 dj_2_3_0_1__4_5 rfl rfl rfl rfl rfl (Nat.le_of_ble_eq_true rfl) ⟨Nat.le_of_ble_eq_true rfl, Nat.le_of_ble_eq_true rfl⟩ ⟨Nat.le_of_ble_eq_true rfl, Nat.le_of_ble_eq_true rfl⟩ gX10_takesLine_8.2.2.1 (fun r3336 => Ktu6 fun ks13338 tf13339 ksp13340 gtsp3341 c13342 r13343 => ?_)
        intro H locs hr3336 hP hD hS
        try dsimp only at hr3336
        refine Kpdr (ws := [(tln, oX8 9 7 tlnc (nI (kln + 1))), (tlnc, iA G 63 (upd gtln3317 (kln * 7 + 4) 1)), (h0, oX10 tby (nI kt) tln tsp (CKD fby kt ks13338) (nI ks13338) (nI (TKE fby kt ks13338)) tf13339), (tby, iA G 240 fby), (tsp, oX8 120 1 tspc (nI ksp13340)), (tspc, iA G 120 gtsp3341)]) hP hD (fun hP hD => ?_)
        rcases hr3336 with ⟨rfl, a3344⟩ | ⟨rfl, a3344⟩
        · obtain ⟨hq3345, hq3346, rfl⟩ := a3344
          have xl3347 := RT.len hq3345 (by decide) (by omega)
          have xl3348 := hq3346.1
          refine lv_if_ne (tgt := 155) hx hb gX10_takesLine_8.2.2.2.1 (by decide) (fun _ => ?_) (fun c9 => absurd c9 (by decide))
          refine lv_aload_n hx hb gX10_takesLine_8.2.2.2.2.2.2.1 rfl (lv_at2 hl) ?_
          refine gf_X10_20 hC rfl hK hP 2 rfl rfl gX10_takesLine_8.2.2.2.2.2.2.2.1 ?_
          refine lv_iload_n hx hb gX10_takesLine_8.2.2.2.2.2.2.2.2.1 rfl (lv_at1 hl) ?_
          refine lv_bipush (v := 6) hx hb gX10_takesLine_8.2.2.2.2.2.2.2.2.2 (by decide) ?_
          refine lv_aload_n hx hb gX10_takesLine_9.1 rfl (lv_at2 hl) ?_
          refine gf_X10_24 hC rfl hK hP 2 rfl rfl gX10_takesLine_9.2.1 ?_
          refine pV hC hK hl hP hD (c_T_count l G tsp 120 1 tspc ksp13340) si_X10_71 [4] sm_4 fm_4 nd_4 rfl rfl rfl rfl rfl (Nat.le_of_ble_eq_true rfl) rm_30_1_1 ⟨by first | exact Nat.le_of_ble_eq_true rfl | exact Nat.zero_le _, by first | exact Nat.le_of_ble_eq_true rfl | exact Nat.zero_le _⟩ gX10_takesLine_9.2.2.1 (Keqr ?_)
          refine lv_aload_n hx hb gX10_takesLine_9.2.2.2.1 rfl (lv_at2 hl) ?_
          refine gf_X10_20 hC rfl hK hP 2 rfl rfl gX10_takesLine_9.2.2.2.2.1 ?_
          refine lv_iload_n hx hb gX10_takesLine_9.2.2.2.2.2.1 rfl (lv_at1 hl) ?_
          refine lv_iconst (v := 5) hx hb gX10_takesLine_9.2.2.2.2.2.2.1 (by decide) ?_
          refine pV hC hK hl hP hD (c_T_at l G tln (nI kln) 5 9 7 tlnc (kln + 1) (upd gtln3317 (kln * 7 + 4) 1) (by omega) (by omega) (by omega)) si_X10_74 [0, 1] sm_0_1 fm_0_1 nd_0_1 rfl rfl rfl rfl rfl (Nat.le_of_ble_eq_true rfl) rm_30_1_3 ⟨by first | exact Nat.le_of_ble_eq_true rfl | exact Nat.zero_le _, by first | exact Nat.le_of_ble_eq_true rfl | exact Nat.zero_le _⟩ gX10_takesLine_9.2.2.2.2.2.2.2.1 (fun r3351 hr3351 => ?_)
          refine eqi (x1 := nI ksp) (hr3351.trans ((tatr (j := kln) (c := 5) (by omega) (by omega) (by decide) (by decide) rfl).trans ((upd_ne (by omega)).trans ((hq3323.2.2.2 _ (by omega) (by omega) (by omega)).trans (BEG.v (f := ftln) (b := kln * 7) (k := ksp) (v := nI 1)).2.2.1)))) ?_
          refine lv_isub hx hb gX10_takesLine_9.2.2.2.2.2.2.2.2.1 ?_
          refine eqi (x1 := nI (ksp13340 - ksp)) (nI_subT (by omega)) ?_
          refine vV (wr := [(h0, oX10 tby (nI kt) tln tsp (CKD fby kt ks13338) (nI ks13338) (nI (TKE fby kt ks13338)) tf9), (tby, iA G 240 fby), (tsp, oX8 120 1 tspc (nI ksp13340)), (tspc, iA G 120 gtsp3341)]) hC hK hl hP hD hS hA (c_T_set l G tln (nI kln) 6 (nI (ksp13340 - ksp)) 9 7 tlnc (kln + 1) (upd gtln3317 (kln * 7 + 4) 1) (by omega) (by omega) (by omega)) si_X10_66 [0, 1] [2, 3, 4, 5] sm_0_1 fm_0_1 nd_0_1 sm_2_3_4_5 nd_2_3_4_5 dj_0_1__2_3_4_5 rfl rfl rfl rfl rfl (Nat.le_of_ble_eq_true rfl) rm_30_1_4 ⟨Nat.le_of_ble_eq_true rfl, Nat.le_of_ble_eq_true rfl⟩ gX10_takesLine_9.2.2.2.2.2.2.2.2.2 (fun f13355 H locs hr3353 hP hD hS => ?_)
          try dsimp only at hr3353
          refine Kpdr (ws := [(h0, oX10 tby (nI kt) tln tsp (CKD fby kt ks13338) (nI ks13338) (nI (TKE fby kt ks13338)) tf9), (tby, iA G 240 fby), (tsp, oX8 120 1 tspc (nI ksp13340)), (tspc, iA G 120 gtsp3341), (tln, oX8 9 7 tlnc (nI (kln + 1))), (tlnc, iA G 63 f13355)]) hP hD (fun hP hD => ?_)
          have w3356 := hr3353
          obtain rfl : upd (upd gtln3317 (kln * 7 + 4) 1) (kln * 7 + 6) (nI (ksp13340 - ksp)) = f13355 := ((tsj (j := kln) (c := 6) (by omega) (by omega) (by omega) (by decide) rfl).symm.trans w3356)
          refine Kpdr (ws := [(h0, oX10 tby (nI kt) tln tsp (CKD fby kt ks13338) (nI ks13338) (nI (TKE fby kt ks13338)) tf9), (tby, iA G 240 fby), (tsp, oX8 120 1 tspc (nI ksp13340)), (tspc, iA G 120 gtsp3341), (tln, oX8 9 7 tlnc (nI (kln + 1))), (tlnc, iA G 63 (upd (upd gtln3317 (kln * 7 + 4) 1) (kln * 7 + 6) (nI (ksp13340 - ksp))))]) hP hD (fun hP hD => ?_)
          refine lv_aload_n hx hb gX10_takesLine_10.1 rfl (lv_at2 hl) ?_
          refine lv_bipush (v := 59) hx hb gX10_takesLine_10.2.1 (by decide) ?_
          refine iV (wr := [(tsp, oX8 120 1 tspc (nI ksp13340)), (tspc, iA G 120 gtsp3341), (tln, oX8 9 7 tlnc (nI (kln + 1))), (tlnc, iA G 63 (upd (upd gtln3317 (kln * 7 + 4) 1) (kln * 7 + 6) (nI (ksp13340 - ksp))))]) hC hK hl hP hD hS hA (t_takesByte l G h0 59 tby kt tln tsp ks13338 tf9 fby (hkt) (by omega) (hBB) (by decide)) si_X10_124 [0, 1] [2, 3, 4, 5] sm_0_1 fm_0_1 nd_0_1 sm_2_3_4_5 nd_2_3_4_5 dj_0_1__2_3_4_5 rfl rfl rfl rfl rfl (Nat.le_of_ble_eq_true rfl) rm_30_4_2 ⟨Nat.le_of_ble_eq_true rfl, Nat.le_of_ble_eq_true rfl⟩ gX10_takesLine_10.2.2.1 (fun r3357 => Ktu2 fun ks13359 tf13360 => ?_)
          intro H locs hr3357 hP hD hS
          try dsimp only at hr3357
          refine Kpdr (ws := [(tsp, oX8 120 1 tspc (nI ksp13340)), (tspc, iA G 120 gtsp3341), (tln, oX8 9 7 tlnc (nI (kln + 1))), (tlnc, iA G 63 (upd (upd gtln3317 (kln * 7 + 4) 1) (kln * 7 + 6) (nI (ksp13340 - ksp)))), (h0, oX10 tby (nI kt) tln tsp (CKD fby kt ks13359) (nI ks13359) (nI (TKE fby kt ks13359)) tf13360), (tby, iA G 240 fby)]) hP hD (fun hP hD => ?_)
          rcases hr3357 with ⟨rfl, a3361⟩ | ⟨rfl, a3361⟩
          · obtain ⟨hq3362, rfl, rfl⟩ := a3361
            have xl3363 := SGN.len hq3362 (by omega)
            refine toQ hQ0 ?_
            exact RI (v := 1) hC hP hD hS [4, 5, 2, 3, 0, 1] ((NXT fby kt ks13338), tf9, (kln + 1), upd (upd gtln3317 (kln * 7 + 4) 1) (kln * 7 + 6) (nI (ksp13340 - ksp)), ksp13340, gtsp3341, (1, x13318, y13319, z13320, 1, cs.length, c13342.length, rs.length, r13343.length), c13342, r13343) rfl rfl (by decide) (Or.inl ⟨rfl, Or.inr ⟨1, hq3305, Or.inr ⟨ks13315, x13318, y13319, z13320, hq3322, Or.inr ⟨⟨by decide, hq3327⟩, Or.inr ⟨ks13338, c13342, r13343, hq3345, Or.inr ⟨hq3362, rfl⟩⟩⟩⟩⟩, hq3346, (by rw [hs1, hq3346.1]; exact LNW.yes hq3323 _ _), rfl, rfl, by (try dsimp only); omega, by (try dsimp only); omega⟩) (by decide +kernel) gX10_takesLine_10.2.2.2
          · obtain ⟨hq3364, rfl, rfl⟩ := a3361
            refine toQ hQ0 ?_
            exact RI (v := 0) hC hP hD hS [4, 5, 2, 3, 0, 1] (ks13338, nI ks13338, (kln + 1), upd (upd gtln3317 (kln * 7 + 4) 1) (kln * 7 + 6) (nI (ksp13340 - ksp)), ksp13340, gtsp3341, LN0, [], []) rfl rfl (by decide) (Or.inr ⟨rfl, Or.inr ⟨1, hq3305, Or.inr ⟨ks13315, x13318, y13319, z13320, hq3322, Or.inr ⟨⟨by decide, hq3327⟩, Or.inr ⟨ks13338, c13342, r13343, hq3345, Or.inl ⟨hq3364, rfl⟩⟩⟩⟩⟩, rfl, by (try dsimp only); omega, by (try dsimp only); omega, by (try dsimp only); omega⟩) (by decide +kernel) gX10_takesLine_10.2.2.2
        · obtain ⟨hq3365, rfl, hq3366, hq3367⟩ := a3344
          refine lv_if_ne (tgt := 155) hx hb gX10_takesLine_8.2.2.2.1 (by decide) (fun c9 => absurd (by decide) c9) (fun _ => ?_)
          refine lv_iconst (v := 0) hx hb gX10_takesLine_8.2.2.2.2.1 (by decide) ?_
          refine toQ hQ0 ?_
          exact RI (v := 0) hC hP hD hS [2, 3, 0, 1, 4, 5] (ks13338, nI ks13338, (kln + 1), upd gtln3317 (kln * 7 + 4) 1, ksp13340, gtsp3341, LN0, [], []) rfl rfl (by decide) (Or.inr ⟨rfl, Or.inr ⟨1, hq3305, Or.inr ⟨ks13315, x13318, y13319, z13320, hq3322, Or.inr ⟨⟨by decide, hq3327⟩, Or.inl ⟨_, hq3365, rfl⟩⟩⟩⟩, rfl, by (try dsimp only); omega, by (try dsimp only); omega, by (try dsimp only); omega⟩) (by decide +kernel) gX10_takesLine_8.2.2.2.2.2.1
      · have hq3368 := a3326
        refine lv_if_eq (tgt := 182) hx hb gX10_takesLine_7.2.1 (by decide) (fun _ => ?_) (fun c9 => absurd (by decide) c9)
        refine lv_aload_n hx hb gX10_takesLine_10.1 rfl (lv_at2 hl) ?_
        refine lv_bipush (v := 59) hx hb gX10_takesLine_10.2.1 (by decide) ?_
        refine iV (wr := [(tsp, oX8 120 1 tspc (nI ksp)), (tspc, iA G 120 ftsp), (tln, oX8 9 7 tlnc (nI (kln + 1))), (tlnc, iA G 63 gtln3317)]) hC hK hl hP hD hS hA (t_takesByte l G h0 59 tby kt tln tsp ks13315 tf9 fby (hkt) (by omega) (hBB) (by decide)) si_X10_124 [2, 3] [0, 1, 4, 5] sm_2_3 fm_2_3 nd_2_3 sm_0_1_4_5 nd_0_1_4_5 dj_2_3__0_1_4_5 rfl rfl rfl rfl rfl (Nat.le_of_ble_eq_true rfl) rm_30_4_2 ⟨Nat.le_of_ble_eq_true rfl, Nat.le_of_ble_eq_true rfl⟩ gX10_takesLine_10.2.2.1 (fun r3369 => Ktu2 fun ks13371 tf13372 => ?_)
        intro H locs hr3369 hP hD hS
        try dsimp only at hr3369
        refine Kpdr (ws := [(tsp, oX8 120 1 tspc (nI ksp)), (tspc, iA G 120 ftsp), (tln, oX8 9 7 tlnc (nI (kln + 1))), (tlnc, iA G 63 gtln3317), (h0, oX10 tby (nI kt) tln tsp (CKD fby kt ks13371) (nI ks13371) (nI (TKE fby kt ks13371)) tf13372), (tby, iA G 240 fby)]) hP hD (fun hP hD => ?_)
        rcases hr3369 with ⟨rfl, a3373⟩ | ⟨rfl, a3373⟩
        · obtain ⟨hq3374, rfl, rfl⟩ := a3373
          have xl3375 := SGN.len hq3374 (by omega)
          refine toQ hQ0 ?_
          exact RI (v := 1) hC hP hD hS [4, 5, 2, 3, 0, 1] ((NXT fby kt ks13315), tf9, (kln + 1), gtln3317, ksp, ftsp, (1, x13318, y13319, z13320, 0, cs.length, cs.length, rs.length, rs.length), cs, rs) rfl rfl (by decide) (Or.inl ⟨rfl, Or.inr ⟨1, hq3305, Or.inr ⟨ks13315, x13318, y13319, z13320, hq3322, Or.inl ⟨(fun h9 => hq3368 h9.2), Or.inr ⟨hq3374, rfl⟩⟩⟩⟩, hST, (by rw [hs1]; exact LNW.no hq3323 _ _), rfl, rfl, by (try dsimp only); omega, by (try dsimp only); omega⟩) (by decide +kernel) gX10_takesLine_10.2.2.2
        · obtain ⟨hq3376, rfl, rfl⟩ := a3373
          refine toQ hQ0 ?_
          exact RI (v := 0) hC hP hD hS [4, 5, 2, 3, 0, 1] (ks13315, nI ks13315, (kln + 1), gtln3317, ksp, ftsp, LN0, [], []) rfl rfl (by decide) (Or.inr ⟨rfl, Or.inr ⟨1, hq3305, Or.inr ⟨ks13315, x13318, y13319, z13320, hq3322, Or.inl ⟨(fun h9 => hq3368 h9.2), Or.inl ⟨hq3376, rfl⟩⟩⟩⟩, rfl, by (try dsimp only); omega, by (try dsimp only); omega, by (try dsimp only); omega⟩) (by decide +kernel) gX10_takesLine_10.2.2.2
    · obtain ⟨hq3377, rfl, hq3378⟩ := a3321
      refine lv_if_ne (tgt := 117) hx hb gX10_takesLine_6.2.2.1 (by decide) (fun c9 => absurd (by decide) c9) (fun _ => ?_)
      refine lv_iconst (v := 0) hx hb gX10_takesLine_6.2.2.2.1 (by decide) ?_
      refine toQ hQ0 ?_
      exact RI (v := 0) hC hP hD hS [2, 3, 4, 5, 0, 1] (ks13315, nI ks13315, (kln + 1), gtln3317, ksp, ftsp, LN0, [], []) rfl rfl (by decide) (Or.inr ⟨rfl, Or.inr ⟨1, hq3305, Or.inl ⟨_, hq3377, rfl⟩⟩, rfl, by (try dsimp only); omega, by (try dsimp only); omega, by (try dsimp only); omega⟩) (by decide +kernel) gX10_takesLine_6.2.2.2.2.1
  · have hq3379 := a3226
    refine lv_istore_n (lv' := [(2, .int 2), (1, .int (nI kln)), (0, .ref h0)]) hx hb gX10_takesLine_4.2.2.2.2.1 rfl hl (by decide) rfl (fun ls hl => ?_)
    refine lv_iload_n hx hb gX10_takesLine_4.2.2.2.2.2.1 rfl (lv_at0 hl) ?_
    refine lv_if_ge (tgt := 92) hx hb gX10_takesLine_4.2.2.2.2.2.2.1 (by decide) (fun _ => ?_) (fun c9 => absurd (by decide) c9)
    refine lv_aload_n hx hb gX10_takesLine_5.1 rfl (lv_at2 hl) ?_
    refine gf_X10_20 hC rfl hK hP 0 rfl rfl gX10_takesLine_5.2.1 ?_
    refine lv_iload_n hx hb gX10_takesLine_5.2.2.1 rfl (lv_at1 hl) ?_
    refine lv_iconst (v := 0) hx hb gX10_takesLine_5.2.2.2.1 (by decide) ?_
    refine lv_iload_n hx hb gX10_takesLine_5.2.2.2.2.1 rfl (lv_at0 hl) ?_
    refine vV (wr := [(h0, oX10 tby (nI kt) tln tsp (CKD fby kt ks) (nI ks) (nI (TKE fby kt ks)) tf9), (tby, iA G 240 fby), (tsp, oX8 120 1 tspc (nI ksp)), (tspc, iA G 120 ftsp)]) hC hK hl hP hD hS hA (c_T_set l G tln (nI kln) 0 2 9 7 tlnc (kln + 1) (upd (upd (upd (upd (upd (upd ftln (kln * 7 + 1) (-9)) (kln * 7 + 2) (-9)) (kln * 7 + 3) (-9)) (kln * 7 + 4) 0) (kln * 7 + 5) (nI ksp)) (kln * 7 + 6) 0) (by omega) (by omega) (by omega)) si_X10_66 [4, 5] [0, 1, 2, 3] sm_4_5 fm_4_5 nd_4_5 sm_0_1_2_3 nd_0_1_2_3 dj_4_5__0_1_2_3 rfl rfl rfl rfl rfl (Nat.le_of_ble_eq_true rfl) rm_30_1_4 ⟨Nat.le_of_ble_eq_true rfl, Nat.le_of_ble_eq_true rfl⟩ gX10_takesLine_5.2.2.2.2.2.1 (fun f13382 H locs hr3380 hP hD hS => ?_)
    try dsimp only at hr3380
    refine Kpdr (ws := [(h0, oX10 tby (nI kt) tln tsp (CKD fby kt ks) (nI ks) (nI (TKE fby kt ks)) tf9), (tby, iA G 240 fby), (tsp, oX8 120 1 tspc (nI ksp)), (tspc, iA G 120 ftsp), (tln, oX8 9 7 tlnc (nI (kln + 1))), (tlnc, iA G 63 f13382)]) hP hD (fun hP hD => ?_)
    have w3383 := hr3380
    obtain rfl : upd (upd (upd (upd (upd (upd (upd ftln (kln * 7 + 1) (-9)) (kln * 7 + 2) (-9)) (kln * 7 + 3) (-9)) (kln * 7 + 4) 0) (kln * 7 + 5) (nI ksp)) (kln * 7 + 6) 0) (kln * 7) 2 = f13382 := ((tsj (j := kln) (c := 0) (by omega) (by omega) (by omega) (by decide) rfl).symm.trans w3383)
    refine Kpdr (ws := [(h0, oX10 tby (nI kt) tln tsp (CKD fby kt ks) (nI ks) (nI (TKE fby kt ks)) tf9), (tby, iA G 240 fby), (tsp, oX8 120 1 tspc (nI ksp)), (tspc, iA G 120 ftsp), (tln, oX8 9 7 tlnc (nI (kln + 1))), (tlnc, iA G 63 (upd (upd (upd (upd (upd (upd (upd ftln (kln * 7 + 1) (-9)) (kln * 7 + 2) (-9)) (kln * 7 + 3) (-9)) (kln * 7 + 4) 0) (kln * 7 + 5) (nI ksp)) (kln * 7 + 6) 0) (kln * 7) 2))]) hP hD (fun hP hD => ?_)
    refine lv_aload_n hx hb gX10_takesLine_5.2.2.2.2.2.2.1 rfl (lv_at2 hl) ?_
    refine vV (wr := [(tsp, oX8 120 1 tspc (nI ksp)), (tspc, iA G 120 ftsp), (tln, oX8 9 7 tlnc (nI (kln + 1))), (tlnc, iA G 63 (upd (upd (upd (upd (upd (upd (upd ftln (kln * 7 + 1) (-9)) (kln * 7 + 2) (-9)) (kln * 7 + 3) (-9)) (kln * 7 + 4) 0) (kln * 7 + 5) (nI ksp)) (kln * 7 + 6) 0) (kln * 7) 2))]) hC hK hl hP hD hS hA (t_advT l G h0 tby kt tln tsp ks tf9 fby (hkt) (hks) (hBB)) si_X10_47 [0, 1] [2, 3, 4, 5] sm_0_1 fm_0_1 nd_0_1 sm_2_3_4_5 nd_2_3_4_5 dj_0_1__2_3_4_5 rfl rfl rfl rfl rfl (Nat.le_of_ble_eq_true rfl) rm_30_3_1 ⟨Nat.le_of_ble_eq_true rfl, Nat.le_of_ble_eq_true rfl⟩ gX10_takesLine_5.2.2.2.2.2.2.2.1 (fun u3385 H locs hr3384 hP hD hS => ?_)
    refine Kpdr (ws := [(tsp, oX8 120 1 tspc (nI ksp)), (tspc, iA G 120 ftsp), (tln, oX8 9 7 tlnc (nI (kln + 1))), (tlnc, iA G 63 (upd (upd (upd (upd (upd (upd (upd ftln (kln * 7 + 1) (-9)) (kln * 7 + 2) (-9)) (kln * 7 + 3) (-9)) (kln * 7 + 4) 0) (kln * 7 + 5) (nI ksp)) (kln * 7 + 6) 0) (kln * 7) 2)), (h0, oX10 tby (nI kt) tln tsp (CKD fby kt (NXT fby kt ks)) (nI (NXT fby kt ks)) (nI (TKE fby kt (NXT fby kt ks))) tf9), (tby, iA G 240 fby)]) hP hD (fun hP hD => ?_)
    have xn3386 := NXT.ge (bt := fby) (n := kt) (s := ks) (by omega)
    have hH9 : HD9 (upd (upd (upd (upd (upd (upd (upd ftln (kln * 7 + 1) (-9)) (kln * 7 + 2) (-9)) (kln * 7 + 3) (-9)) (kln * 7 + 4) 0) (kln * 7 + 5) (nI ksp)) (kln * 7 + 6) 0) (kln * 7) 2) (kln * 7) := BEG.h9 (f := ftln) (b := kln * 7) (k := ksp) (v := nI 2)
    refine lv_aload_n hx hb gX10_takesLine_5.2.2.2.2.2.2.2.2.1 rfl (lv_at2 hl) ?_
    refine lv_iload_n hx hb gX10_takesLine_5.2.2.2.2.2.2.2.2.2 rfl (lv_at1 hl) ?_
    refine lv_iload_n hx hb gX10_takesLine_6.1 rfl (lv_at0 hl) ?_
    refine iVo (wr := [(tsp, oX8 120 1 tspc (nI ksp)), (tspc, iA G 120 ftsp)]) hO hC hK hl hP hD hS hA (t_head2 l G K h0 kln tby kt tln tsp (NXT fby kt ks) tf9 fby tlnc (kln + 1) (upd (upd (upd (upd (upd (upd (upd ftln (kln * 7 + 1) (-9)) (kln * 7 + 2) (-9)) (kln * 7 + 3) (-9)) (kln * 7 + 4) 0) (kln * 7 + 5) (nI ksp)) (kln * 7 + 6) 0) (kln * 7) 2) (hkt) (by omega) (hBB) (by omega) (by omega) (hH9)) si_X10_115 [4, 5, 2, 3] [0, 1] sm_4_5_2_3 fm_4_5_2_3 nd_4_5_2_3 sm_0_1 nd_0_1 dj_4_5_2_3__0_1 rfl rfl rfl rfl rfl (Nat.le_of_ble_eq_true rfl) rm_30_8_3 ⟨Nat.le_of_ble_eq_true rfl, Nat.le_of_ble_eq_true rfl⟩ gX10_takesLine_6.2.1 (fun r3387 => Ktu6 fun ks13389 tf13390 gtln3391 x13392 y13393 z13394 => ?_)
    intro H locs hr3387 hP hD hS
    try dsimp only at hr3387
    refine Kpdr (ws := [(tsp, oX8 120 1 tspc (nI ksp)), (tspc, iA G 120 ftsp), (h0, oX10 tby (nI kt) tln tsp (CKD fby kt ks13389) (nI ks13389) (nI (TKE fby kt ks13389)) tf13390), (tby, iA G 240 fby), (tln, oX8 9 7 tlnc (nI (kln + 1))), (tlnc, iA G 63 gtln3391)]) hP hD (fun hP hD => ?_)
    rcases hr3387 with ⟨rfl, a3395⟩ | ⟨rfl, a3395⟩
    · obtain ⟨hq3396, rfl, hq3397⟩ := a3395
      have xl3398 := HDQ.gt hq3396 (by omega)
      refine lv_if_ne (tgt := 117) hx hb gX10_takesLine_6.2.2.1 (by decide) (fun _ => ?_) (fun c9 => absurd c9 (by decide))
      refine lv_iload_n hx hb gX10_takesLine_6.2.2.2.2.2.1 rfl (lv_at0 hl) ?_
      refine lv_iconst (v := 3) hx hb gX10_takesLine_6.2.2.2.2.2.2.1 (by decide) ?_
      refine lv_icmp_eq (tgt := 182) hx hb gX10_takesLine_6.2.2.2.2.2.2.2.1 (by decide) (fun c9 => absurd c9 (by decide)) (fun _ => ?_)
      refine lv_aload_n hx hb gX10_takesLine_6.2.2.2.2.2.2.2.2.1 rfl (lv_at2 hl) ?_
      refine va_ldcS (index := 119) (tx := "if") hx hb hown (hO.2.1 0 (by decide)) gX10_takesLine_6.2.2.2.2.2.2.2.2.2 ?_
      refine pVo hO hS hC hK hl hP hD (t_isName l G K 0 h0 tby kt tln tsp ks13389 tf9 fby (hkt) (by omega) (hBB) ((by decide))) si_X10_102 [2, 3] sm_2_3 fm_2_3 nd_2_3 rfl rfl rfl rfl rfl (Nat.le_of_ble_eq_true rfl) rm_30_6_3 ⟨by first | exact Nat.le_of_ble_eq_true rfl | exact Nat.zero_le _, by first | exact Nat.le_of_ble_eq_true rfl | exact Nat.zero_le _⟩ gX10_takesLine_7.1 (Kors (Keqa fun a3400 => ?_) (Keqa fun a3400 => ?_))
      · have hq3401 := a3400
        have xl3402 : ks13389 + 2 ≤ NXT fby kt ks13389 ∧ NXT fby kt ks13389 ≤ kt := WRD.len hq3401 (by omega)
        refine lv_if_eq (tgt := 182) hx hb gX10_takesLine_7.2.1 (by decide) (fun c9 => absurd c9 (by decide)) (fun _ => ?_)
        refine lv_aload_n hx hb gX10_takesLine_7.2.2.1 rfl (lv_at2 hl) ?_
        refine vV (wr := [(tsp, oX8 120 1 tspc (nI ksp)), (tspc, iA G 120 ftsp), (tln, oX8 9 7 tlnc (nI (kln + 1))), (tlnc, iA G 63 gtln3391)]) hC hK hl hP hD hS hA (t_advT l G h0 tby kt tln tsp ks13389 tf9 fby (hkt) (by omega) (hBB)) si_X10_47 [2, 3] [0, 1, 4, 5] sm_2_3 fm_2_3 nd_2_3 sm_0_1_4_5 nd_0_1_4_5 dj_2_3__0_1_4_5 rfl rfl rfl rfl rfl (Nat.le_of_ble_eq_true rfl) rm_30_3_1 ⟨Nat.le_of_ble_eq_true rfl, Nat.le_of_ble_eq_true rfl⟩ gX10_takesLine_7.2.2.2.1 (fun u3404 H locs hr3403 hP hD hS => ?_)
        refine Kpdr (ws := [(tsp, oX8 120 1 tspc (nI ksp)), (tspc, iA G 120 ftsp), (tln, oX8 9 7 tlnc (nI (kln + 1))), (tlnc, iA G 63 gtln3391), (h0, oX10 tby (nI kt) tln tsp (CKD fby kt (NXT fby kt ks13389)) (nI (NXT fby kt ks13389)) (nI (TKE fby kt (NXT fby kt ks13389))) tf9), (tby, iA G 240 fby)]) hP hD (fun hP hD => ?_)
        have xn3405 := NXT.ge (bt := fby) (n := kt) (s := ks13389) (by omega)
        refine lv_aload_n hx hb gX10_takesLine_7.2.2.2.2.1 rfl (lv_at2 hl) ?_
        refine gf_X10_20 hC rfl hK hP 4 rfl rfl gX10_takesLine_7.2.2.2.2.2.1 ?_
        refine lv_iload_n hx hb gX10_takesLine_7.2.2.2.2.2.2.1 rfl (lv_at1 hl) ?_
        refine lv_iconst (v := 4) hx hb gX10_takesLine_7.2.2.2.2.2.2.2.1 (by decide) ?_
        refine lv_iconst (v := 1) hx hb gX10_takesLine_7.2.2.2.2.2.2.2.2.1 (by decide) ?_
        refine vV (wr := [(tsp, oX8 120 1 tspc (nI ksp)), (tspc, iA G 120 ftsp), (h0, oX10 tby (nI kt) tln tsp (CKD fby kt (NXT fby kt ks13389)) (nI (NXT fby kt ks13389)) (nI (TKE fby kt (NXT fby kt ks13389))) tf9), (tby, iA G 240 fby)]) hC hK hl hP hD hS hA (c_T_set l G tln (nI kln) 4 1 9 7 tlnc (kln + 1) gtln3391 (by omega) (by omega) (by omega)) si_X10_66 [2, 3] [0, 1, 4, 5] sm_2_3 fm_2_3 nd_2_3 sm_0_1_4_5 nd_0_1_4_5 dj_2_3__0_1_4_5 rfl rfl rfl rfl rfl (Nat.le_of_ble_eq_true rfl) rm_30_1_4 ⟨Nat.le_of_ble_eq_true rfl, Nat.le_of_ble_eq_true rfl⟩ gX10_takesLine_7.2.2.2.2.2.2.2.2.2 (fun f13408 H locs hr3406 hP hD hS => ?_)
        try dsimp only at hr3406
        refine Kpdr (ws := [(tsp, oX8 120 1 tspc (nI ksp)), (tspc, iA G 120 ftsp), (h0, oX10 tby (nI kt) tln tsp (CKD fby kt (NXT fby kt ks13389)) (nI (NXT fby kt ks13389)) (nI (TKE fby kt (NXT fby kt ks13389))) tf9), (tby, iA G 240 fby), (tln, oX8 9 7 tlnc (nI (kln + 1))), (tlnc, iA G 63 f13408)]) hP hD (fun hP hD => ?_)
        have w3409 := hr3406
        obtain rfl : upd gtln3391 (kln * 7 + 4) 1 = f13408 := ((tsj (j := kln) (c := 4) (by omega) (by omega) (by omega) (by decide) rfl).symm.trans w3409)
        refine Kpdr (ws := [(tsp, oX8 120 1 tspc (nI ksp)), (tspc, iA G 120 ftsp), (h0, oX10 tby (nI kt) tln tsp (CKD fby kt (NXT fby kt ks13389)) (nI (NXT fby kt ks13389)) (nI (TKE fby kt (NXT fby kt ks13389))) tf9), (tby, iA G 240 fby), (tln, oX8 9 7 tlnc (nI (kln + 1))), (tlnc, iA G 63 (upd gtln3391 (kln * 7 + 4) 1))]) hP hD (fun hP hD => ?_)
        refine lv_aload_n hx hb gX10_takesLine_8.1 rfl (lv_at2 hl) ?_
        refine lv_iconst (v := 0) hx hb gX10_takesLine_8.2.1 (by decide) ?_
        refine iVo (wr := [(tln, oX8 9 7 tlnc (nI (kln + 1))), (tlnc, iA G 63 (upd gtln3391 (kln * 7 + 4) 1))]) hO hC hK hl hP hD hS hA (t_cond l G K 4 h0 0 tby kt tln tsp (NXT fby kt ks13389) tf9 fby tspc ksp ftsp cs rs (by omega) (by omega) (hBB) (hST) (by omega) (by omega)) si_X10_121 [2, 3, 0, 1] [4, 5] sm_2_3_0_1 fm_2_3_0_1 nd_2_3_0_1 sm_4_5 nd_4_5 dj_2_3_0_1__4_5 rfl rfl rfl rfl rfl (Nat.le_of_ble_eq_true rfl) ⟨Nat.le_of_ble_eq_true rfl, Nat.le_of_ble_eq_true rfl⟩ ⟨Nat.le_of_ble_eq_true rfl, Nat.le_of_ble_eq_true rfl⟩ gX10_takesLine_8.2.2.1 (fun r3410 => Ktu6 fun ks13412 tf13413 ksp13414 gtsp3415 c13416 r13417 => ?_)
        intro H locs hr3410 hP hD hS
        try dsimp only at hr3410
        refine Kpdr (ws := [(tln, oX8 9 7 tlnc (nI (kln + 1))), (tlnc, iA G 63 (upd gtln3391 (kln * 7 + 4) 1)), (h0, oX10 tby (nI kt) tln tsp (CKD fby kt ks13412) (nI ks13412) (nI (TKE fby kt ks13412)) tf13413), (tby, iA G 240 fby), (tsp, oX8 120 1 tspc (nI ksp13414)), (tspc, iA G 120 gtsp3415)]) hP hD (fun hP hD => ?_)
        rcases hr3410 with ⟨rfl, a3418⟩ | ⟨rfl, a3418⟩
        · obtain ⟨hq3419, hq3420, rfl⟩ := a3418
          have xl3421 := RT.len hq3419 (by decide) (by omega)
          have xl3422 := hq3420.1
          refine lv_if_ne (tgt := 155) hx hb gX10_takesLine_8.2.2.2.1 (by decide) (fun _ => ?_) (fun c9 => absurd c9 (by decide))
          refine lv_aload_n hx hb gX10_takesLine_8.2.2.2.2.2.2.1 rfl (lv_at2 hl) ?_
          refine gf_X10_20 hC rfl hK hP 2 rfl rfl gX10_takesLine_8.2.2.2.2.2.2.2.1 ?_
          refine lv_iload_n hx hb gX10_takesLine_8.2.2.2.2.2.2.2.2.1 rfl (lv_at1 hl) ?_
          refine lv_bipush (v := 6) hx hb gX10_takesLine_8.2.2.2.2.2.2.2.2.2 (by decide) ?_
          refine lv_aload_n hx hb gX10_takesLine_9.1 rfl (lv_at2 hl) ?_
          refine gf_X10_24 hC rfl hK hP 2 rfl rfl gX10_takesLine_9.2.1 ?_
          refine pV hC hK hl hP hD (c_T_count l G tsp 120 1 tspc ksp13414) si_X10_71 [4] sm_4 fm_4 nd_4 rfl rfl rfl rfl rfl (Nat.le_of_ble_eq_true rfl) rm_30_1_1 ⟨by first | exact Nat.le_of_ble_eq_true rfl | exact Nat.zero_le _, by first | exact Nat.le_of_ble_eq_true rfl | exact Nat.zero_le _⟩ gX10_takesLine_9.2.2.1 (Keqr ?_)
          refine lv_aload_n hx hb gX10_takesLine_9.2.2.2.1 rfl (lv_at2 hl) ?_
          refine gf_X10_20 hC rfl hK hP 2 rfl rfl gX10_takesLine_9.2.2.2.2.1 ?_
          refine lv_iload_n hx hb gX10_takesLine_9.2.2.2.2.2.1 rfl (lv_at1 hl) ?_
          refine lv_iconst (v := 5) hx hb gX10_takesLine_9.2.2.2.2.2.2.1 (by decide) ?_
          refine pV hC hK hl hP hD (c_T_at l G tln (nI kln) 5 9 7 tlnc (kln + 1) (upd gtln3391 (kln * 7 + 4) 1) (by omega) (by omega) (by omega)) si_X10_74 [0, 1] sm_0_1 fm_0_1 nd_0_1 rfl rfl rfl rfl rfl (Nat.le_of_ble_eq_true rfl) rm_30_1_3 ⟨by first | exact Nat.le_of_ble_eq_true rfl | exact Nat.zero_le _, by first | exact Nat.le_of_ble_eq_true rfl | exact Nat.zero_le _⟩ gX10_takesLine_9.2.2.2.2.2.2.2.1 (fun r3425 hr3425 => ?_)
          refine eqi (x1 := nI ksp) (hr3425.trans ((tatr (j := kln) (c := 5) (by omega) (by omega) (by decide) (by decide) rfl).trans ((upd_ne (by omega)).trans ((hq3397.2.2.2 _ (by omega) (by omega) (by omega)).trans (BEG.v (f := ftln) (b := kln * 7) (k := ksp) (v := nI 2)).2.2.1)))) ?_
          refine lv_isub hx hb gX10_takesLine_9.2.2.2.2.2.2.2.2.1 ?_
          refine eqi (x1 := nI (ksp13414 - ksp)) (nI_subT (by omega)) ?_
          refine vV (wr := [(h0, oX10 tby (nI kt) tln tsp (CKD fby kt ks13412) (nI ks13412) (nI (TKE fby kt ks13412)) tf9), (tby, iA G 240 fby), (tsp, oX8 120 1 tspc (nI ksp13414)), (tspc, iA G 120 gtsp3415)]) hC hK hl hP hD hS hA (c_T_set l G tln (nI kln) 6 (nI (ksp13414 - ksp)) 9 7 tlnc (kln + 1) (upd gtln3391 (kln * 7 + 4) 1) (by omega) (by omega) (by omega)) si_X10_66 [0, 1] [2, 3, 4, 5] sm_0_1 fm_0_1 nd_0_1 sm_2_3_4_5 nd_2_3_4_5 dj_0_1__2_3_4_5 rfl rfl rfl rfl rfl (Nat.le_of_ble_eq_true rfl) rm_30_1_4 ⟨Nat.le_of_ble_eq_true rfl, Nat.le_of_ble_eq_true rfl⟩ gX10_takesLine_9.2.2.2.2.2.2.2.2.2 (fun f13429 H locs hr3427 hP hD hS => ?_)
          try dsimp only at hr3427
          refine Kpdr (ws := [(h0, oX10 tby (nI kt) tln tsp (CKD fby kt ks13412) (nI ks13412) (nI (TKE fby kt ks13412)) tf9), (tby, iA G 240 fby), (tsp, oX8 120 1 tspc (nI ksp13414)), (tspc, iA G 120 gtsp3415), (tln, oX8 9 7 tlnc (nI (kln + 1))), (tlnc, iA G 63 f13429)]) hP hD (fun hP hD => ?_)
          have w3430 := hr3427
          obtain rfl : upd (upd gtln3391 (kln * 7 + 4) 1) (kln * 7 + 6) (nI (ksp13414 - ksp)) = f13429 := ((tsj (j := kln) (c := 6) (by omega) (by omega) (by omega) (by decide) rfl).symm.trans w3430)
          refine Kpdr (ws := [(h0, oX10 tby (nI kt) tln tsp (CKD fby kt ks13412) (nI ks13412) (nI (TKE fby kt ks13412)) tf9), (tby, iA G 240 fby), (tsp, oX8 120 1 tspc (nI ksp13414)), (tspc, iA G 120 gtsp3415), (tln, oX8 9 7 tlnc (nI (kln + 1))), (tlnc, iA G 63 (upd (upd gtln3391 (kln * 7 + 4) 1) (kln * 7 + 6) (nI (ksp13414 - ksp))))]) hP hD (fun hP hD => ?_)
          refine lv_aload_n hx hb gX10_takesLine_10.1 rfl (lv_at2 hl) ?_
          refine lv_bipush (v := 59) hx hb gX10_takesLine_10.2.1 (by decide) ?_
          refine iV (wr := [(tsp, oX8 120 1 tspc (nI ksp13414)), (tspc, iA G 120 gtsp3415), (tln, oX8 9 7 tlnc (nI (kln + 1))), (tlnc, iA G 63 (upd (upd gtln3391 (kln * 7 + 4) 1) (kln * 7 + 6) (nI (ksp13414 - ksp))))]) hC hK hl hP hD hS hA (t_takesByte l G h0 59 tby kt tln tsp ks13412 tf9 fby (hkt) (by omega) (hBB) (by decide)) si_X10_124 [0, 1] [2, 3, 4, 5] sm_0_1 fm_0_1 nd_0_1 sm_2_3_4_5 nd_2_3_4_5 dj_0_1__2_3_4_5 rfl rfl rfl rfl rfl (Nat.le_of_ble_eq_true rfl) rm_30_4_2 ⟨Nat.le_of_ble_eq_true rfl, Nat.le_of_ble_eq_true rfl⟩ gX10_takesLine_10.2.2.1 (fun r3431 => Ktu2 fun ks13433 tf13434 => ?_)
          intro H locs hr3431 hP hD hS
          try dsimp only at hr3431
          refine Kpdr (ws := [(tsp, oX8 120 1 tspc (nI ksp13414)), (tspc, iA G 120 gtsp3415), (tln, oX8 9 7 tlnc (nI (kln + 1))), (tlnc, iA G 63 (upd (upd gtln3391 (kln * 7 + 4) 1) (kln * 7 + 6) (nI (ksp13414 - ksp)))), (h0, oX10 tby (nI kt) tln tsp (CKD fby kt ks13433) (nI ks13433) (nI (TKE fby kt ks13433)) tf13434), (tby, iA G 240 fby)]) hP hD (fun hP hD => ?_)
          rcases hr3431 with ⟨rfl, a3435⟩ | ⟨rfl, a3435⟩
          · obtain ⟨hq3436, rfl, rfl⟩ := a3435
            have xl3437 := SGN.len hq3436 (by omega)
            refine toQ hQ0 ?_
            exact RI (v := 1) hC hP hD hS [4, 5, 2, 3, 0, 1] ((NXT fby kt ks13412), tf9, (kln + 1), upd (upd gtln3391 (kln * 7 + 4) 1) (kln * 7 + 6) (nI (ksp13414 - ksp)), ksp13414, gtsp3415, (2, x13392, y13393, z13394, 1, cs.length, c13416.length, rs.length, r13417.length), c13416, r13417) rfl rfl (by decide) (Or.inl ⟨rfl, Or.inr ⟨2, hq3379, Or.inr ⟨ks13389, x13392, y13393, z13394, hq3396, Or.inr ⟨⟨by decide, hq3401⟩, Or.inr ⟨ks13412, c13416, r13417, hq3419, Or.inr ⟨hq3436, rfl⟩⟩⟩⟩⟩, hq3420, (by rw [hs1, hq3420.1]; exact LNW.yes hq3397 _ _), rfl, rfl, by (try dsimp only); omega, by (try dsimp only); omega⟩) (by decide +kernel) gX10_takesLine_10.2.2.2
          · obtain ⟨hq3438, rfl, rfl⟩ := a3435
            refine toQ hQ0 ?_
            exact RI (v := 0) hC hP hD hS [4, 5, 2, 3, 0, 1] (ks13412, nI ks13412, (kln + 1), upd (upd gtln3391 (kln * 7 + 4) 1) (kln * 7 + 6) (nI (ksp13414 - ksp)), ksp13414, gtsp3415, LN0, [], []) rfl rfl (by decide) (Or.inr ⟨rfl, Or.inr ⟨2, hq3379, Or.inr ⟨ks13389, x13392, y13393, z13394, hq3396, Or.inr ⟨⟨by decide, hq3401⟩, Or.inr ⟨ks13412, c13416, r13417, hq3419, Or.inl ⟨hq3438, rfl⟩⟩⟩⟩⟩, rfl, by (try dsimp only); omega, by (try dsimp only); omega, by (try dsimp only); omega⟩) (by decide +kernel) gX10_takesLine_10.2.2.2
        · obtain ⟨hq3439, rfl, hq3440, hq3441⟩ := a3418
          refine lv_if_ne (tgt := 155) hx hb gX10_takesLine_8.2.2.2.1 (by decide) (fun c9 => absurd (by decide) c9) (fun _ => ?_)
          refine lv_iconst (v := 0) hx hb gX10_takesLine_8.2.2.2.2.1 (by decide) ?_
          refine toQ hQ0 ?_
          exact RI (v := 0) hC hP hD hS [2, 3, 0, 1, 4, 5] (ks13412, nI ks13412, (kln + 1), upd gtln3391 (kln * 7 + 4) 1, ksp13414, gtsp3415, LN0, [], []) rfl rfl (by decide) (Or.inr ⟨rfl, Or.inr ⟨2, hq3379, Or.inr ⟨ks13389, x13392, y13393, z13394, hq3396, Or.inr ⟨⟨by decide, hq3401⟩, Or.inl ⟨_, hq3439, rfl⟩⟩⟩⟩, rfl, by (try dsimp only); omega, by (try dsimp only); omega, by (try dsimp only); omega⟩) (by decide +kernel) gX10_takesLine_8.2.2.2.2.2.1
      · have hq3442 := a3400
        refine lv_if_eq (tgt := 182) hx hb gX10_takesLine_7.2.1 (by decide) (fun _ => ?_) (fun c9 => absurd (by decide) c9)
        refine lv_aload_n hx hb gX10_takesLine_10.1 rfl (lv_at2 hl) ?_
        refine lv_bipush (v := 59) hx hb gX10_takesLine_10.2.1 (by decide) ?_
        refine iV (wr := [(tsp, oX8 120 1 tspc (nI ksp)), (tspc, iA G 120 ftsp), (tln, oX8 9 7 tlnc (nI (kln + 1))), (tlnc, iA G 63 gtln3391)]) hC hK hl hP hD hS hA (t_takesByte l G h0 59 tby kt tln tsp ks13389 tf9 fby (hkt) (by omega) (hBB) (by decide)) si_X10_124 [2, 3] [0, 1, 4, 5] sm_2_3 fm_2_3 nd_2_3 sm_0_1_4_5 nd_0_1_4_5 dj_2_3__0_1_4_5 rfl rfl rfl rfl rfl (Nat.le_of_ble_eq_true rfl) rm_30_4_2 ⟨Nat.le_of_ble_eq_true rfl, Nat.le_of_ble_eq_true rfl⟩ gX10_takesLine_10.2.2.1 (fun r3443 => Ktu2 fun ks13445 tf13446 => ?_)
        intro H locs hr3443 hP hD hS
        try dsimp only at hr3443
        refine Kpdr (ws := [(tsp, oX8 120 1 tspc (nI ksp)), (tspc, iA G 120 ftsp), (tln, oX8 9 7 tlnc (nI (kln + 1))), (tlnc, iA G 63 gtln3391), (h0, oX10 tby (nI kt) tln tsp (CKD fby kt ks13445) (nI ks13445) (nI (TKE fby kt ks13445)) tf13446), (tby, iA G 240 fby)]) hP hD (fun hP hD => ?_)
        rcases hr3443 with ⟨rfl, a3447⟩ | ⟨rfl, a3447⟩
        · obtain ⟨hq3448, rfl, rfl⟩ := a3447
          have xl3449 := SGN.len hq3448 (by omega)
          refine toQ hQ0 ?_
          exact RI (v := 1) hC hP hD hS [4, 5, 2, 3, 0, 1] ((NXT fby kt ks13389), tf9, (kln + 1), gtln3391, ksp, ftsp, (2, x13392, y13393, z13394, 0, cs.length, cs.length, rs.length, rs.length), cs, rs) rfl rfl (by decide) (Or.inl ⟨rfl, Or.inr ⟨2, hq3379, Or.inr ⟨ks13389, x13392, y13393, z13394, hq3396, Or.inl ⟨(fun h9 => hq3442 h9.2), Or.inr ⟨hq3448, rfl⟩⟩⟩⟩, hST, (by rw [hs1]; exact LNW.no hq3397 _ _), rfl, rfl, by (try dsimp only); omega, by (try dsimp only); omega⟩) (by decide +kernel) gX10_takesLine_10.2.2.2
        · obtain ⟨hq3450, rfl, rfl⟩ := a3447
          refine toQ hQ0 ?_
          exact RI (v := 0) hC hP hD hS [4, 5, 2, 3, 0, 1] (ks13389, nI ks13389, (kln + 1), gtln3391, ksp, ftsp, LN0, [], []) rfl rfl (by decide) (Or.inr ⟨rfl, Or.inr ⟨2, hq3379, Or.inr ⟨ks13389, x13392, y13393, z13394, hq3396, Or.inl ⟨(fun h9 => hq3442 h9.2), Or.inl ⟨hq3450, rfl⟩⟩⟩⟩, rfl, by (try dsimp only); omega, by (try dsimp only); omega, by (try dsimp only); omega⟩) (by decide +kernel) gX10_takesLine_10.2.2.2
    · obtain ⟨hq3451, rfl, hq3452⟩ := a3395
      refine lv_if_ne (tgt := 117) hx hb gX10_takesLine_6.2.2.1 (by decide) (fun c9 => absurd (by decide) c9) (fun _ => ?_)
      refine lv_iconst (v := 0) hx hb gX10_takesLine_6.2.2.2.1 (by decide) ?_
      refine toQ hQ0 ?_
      exact RI (v := 0) hC hP hD hS [2, 3, 4, 5, 0, 1] (ks13389, nI ks13389, (kln + 1), gtln3391, ksp, ftsp, LN0, [], []) rfl rfl (by decide) (Or.inr ⟨rfl, Or.inr ⟨2, hq3379, Or.inl ⟨_, hq3451, rfl⟩⟩, rfl, by (try dsimp only); omega, by (try dsimp only); omega, by (try dsimp only); omega⟩) (by decide +kernel) gX10_takesLine_6.2.2.2.2.1
  · have hq3453 := a3226
    refine lv_istore_n (lv' := [(2, .int 3), (1, .int (nI kln)), (0, .ref h0)]) hx hb gX10_takesLine_4.2.2.2.2.1 rfl hl (by decide) rfl (fun ls hl => ?_)
    refine lv_iload_n hx hb gX10_takesLine_4.2.2.2.2.2.1 rfl (lv_at0 hl) ?_
    refine lv_if_ge (tgt := 92) hx hb gX10_takesLine_4.2.2.2.2.2.2.1 (by decide) (fun _ => ?_) (fun c9 => absurd (by decide) c9)
    refine lv_aload_n hx hb gX10_takesLine_5.1 rfl (lv_at2 hl) ?_
    refine gf_X10_20 hC rfl hK hP 0 rfl rfl gX10_takesLine_5.2.1 ?_
    refine lv_iload_n hx hb gX10_takesLine_5.2.2.1 rfl (lv_at1 hl) ?_
    refine lv_iconst (v := 0) hx hb gX10_takesLine_5.2.2.2.1 (by decide) ?_
    refine lv_iload_n hx hb gX10_takesLine_5.2.2.2.2.1 rfl (lv_at0 hl) ?_
    refine vV (wr := [(h0, oX10 tby (nI kt) tln tsp (CKD fby kt ks) (nI ks) (nI (TKE fby kt ks)) tf9), (tby, iA G 240 fby), (tsp, oX8 120 1 tspc (nI ksp)), (tspc, iA G 120 ftsp)]) hC hK hl hP hD hS hA (c_T_set l G tln (nI kln) 0 3 9 7 tlnc (kln + 1) (upd (upd (upd (upd (upd (upd ftln (kln * 7 + 1) (-9)) (kln * 7 + 2) (-9)) (kln * 7 + 3) (-9)) (kln * 7 + 4) 0) (kln * 7 + 5) (nI ksp)) (kln * 7 + 6) 0) (by omega) (by omega) (by omega)) si_X10_66 [4, 5] [0, 1, 2, 3] sm_4_5 fm_4_5 nd_4_5 sm_0_1_2_3 nd_0_1_2_3 dj_4_5__0_1_2_3 rfl rfl rfl rfl rfl (Nat.le_of_ble_eq_true rfl) rm_30_1_4 ⟨Nat.le_of_ble_eq_true rfl, Nat.le_of_ble_eq_true rfl⟩ gX10_takesLine_5.2.2.2.2.2.1 (fun f13456 H locs hr3454 hP hD hS => ?_)
    try dsimp only at hr3454
    refine Kpdr (ws := [(h0, oX10 tby (nI kt) tln tsp (CKD fby kt ks) (nI ks) (nI (TKE fby kt ks)) tf9), (tby, iA G 240 fby), (tsp, oX8 120 1 tspc (nI ksp)), (tspc, iA G 120 ftsp), (tln, oX8 9 7 tlnc (nI (kln + 1))), (tlnc, iA G 63 f13456)]) hP hD (fun hP hD => ?_)
    have w3457 := hr3454
    obtain rfl : upd (upd (upd (upd (upd (upd (upd ftln (kln * 7 + 1) (-9)) (kln * 7 + 2) (-9)) (kln * 7 + 3) (-9)) (kln * 7 + 4) 0) (kln * 7 + 5) (nI ksp)) (kln * 7 + 6) 0) (kln * 7) 3 = f13456 := ((tsj (j := kln) (c := 0) (by omega) (by omega) (by omega) (by decide) rfl).symm.trans w3457)
    refine Kpdr (ws := [(h0, oX10 tby (nI kt) tln tsp (CKD fby kt ks) (nI ks) (nI (TKE fby kt ks)) tf9), (tby, iA G 240 fby), (tsp, oX8 120 1 tspc (nI ksp)), (tspc, iA G 120 ftsp), (tln, oX8 9 7 tlnc (nI (kln + 1))), (tlnc, iA G 63 (upd (upd (upd (upd (upd (upd (upd ftln (kln * 7 + 1) (-9)) (kln * 7 + 2) (-9)) (kln * 7 + 3) (-9)) (kln * 7 + 4) 0) (kln * 7 + 5) (nI ksp)) (kln * 7 + 6) 0) (kln * 7) 3))]) hP hD (fun hP hD => ?_)
    refine lv_aload_n hx hb gX10_takesLine_5.2.2.2.2.2.2.1 rfl (lv_at2 hl) ?_
    refine vV (wr := [(tsp, oX8 120 1 tspc (nI ksp)), (tspc, iA G 120 ftsp), (tln, oX8 9 7 tlnc (nI (kln + 1))), (tlnc, iA G 63 (upd (upd (upd (upd (upd (upd (upd ftln (kln * 7 + 1) (-9)) (kln * 7 + 2) (-9)) (kln * 7 + 3) (-9)) (kln * 7 + 4) 0) (kln * 7 + 5) (nI ksp)) (kln * 7 + 6) 0) (kln * 7) 3))]) hC hK hl hP hD hS hA (t_advT l G h0 tby kt tln tsp ks tf9 fby (hkt) (hks) (hBB)) si_X10_47 [0, 1] [2, 3, 4, 5] sm_0_1 fm_0_1 nd_0_1 sm_2_3_4_5 nd_2_3_4_5 dj_0_1__2_3_4_5 rfl rfl rfl rfl rfl (Nat.le_of_ble_eq_true rfl) rm_30_3_1 ⟨Nat.le_of_ble_eq_true rfl, Nat.le_of_ble_eq_true rfl⟩ gX10_takesLine_5.2.2.2.2.2.2.2.1 (fun u3459 H locs hr3458 hP hD hS => ?_)
    refine Kpdr (ws := [(tsp, oX8 120 1 tspc (nI ksp)), (tspc, iA G 120 ftsp), (tln, oX8 9 7 tlnc (nI (kln + 1))), (tlnc, iA G 63 (upd (upd (upd (upd (upd (upd (upd ftln (kln * 7 + 1) (-9)) (kln * 7 + 2) (-9)) (kln * 7 + 3) (-9)) (kln * 7 + 4) 0) (kln * 7 + 5) (nI ksp)) (kln * 7 + 6) 0) (kln * 7) 3)), (h0, oX10 tby (nI kt) tln tsp (CKD fby kt (NXT fby kt ks)) (nI (NXT fby kt ks)) (nI (TKE fby kt (NXT fby kt ks))) tf9), (tby, iA G 240 fby)]) hP hD (fun hP hD => ?_)
    have xn3460 := NXT.ge (bt := fby) (n := kt) (s := ks) (by omega)
    have hH9 : HD9 (upd (upd (upd (upd (upd (upd (upd ftln (kln * 7 + 1) (-9)) (kln * 7 + 2) (-9)) (kln * 7 + 3) (-9)) (kln * 7 + 4) 0) (kln * 7 + 5) (nI ksp)) (kln * 7 + 6) 0) (kln * 7) 3) (kln * 7) := BEG.h9 (f := ftln) (b := kln * 7) (k := ksp) (v := nI 3)
    refine lv_aload_n hx hb gX10_takesLine_5.2.2.2.2.2.2.2.2.1 rfl (lv_at2 hl) ?_
    refine lv_iload_n hx hb gX10_takesLine_5.2.2.2.2.2.2.2.2.2 rfl (lv_at1 hl) ?_
    refine lv_iload_n hx hb gX10_takesLine_6.1 rfl (lv_at0 hl) ?_
    refine iVo (wr := [(tsp, oX8 120 1 tspc (nI ksp)), (tspc, iA G 120 ftsp)]) hO hC hK hl hP hD hS hA (t_head3 l G K h0 kln tby kt tln tsp (NXT fby kt ks) tf9 fby tlnc (kln + 1) (upd (upd (upd (upd (upd (upd (upd ftln (kln * 7 + 1) (-9)) (kln * 7 + 2) (-9)) (kln * 7 + 3) (-9)) (kln * 7 + 4) 0) (kln * 7 + 5) (nI ksp)) (kln * 7 + 6) 0) (kln * 7) 3) (hkt) (by omega) (hBB) (by omega) (by omega) (hH9)) si_X10_115 [4, 5, 2, 3] [0, 1] sm_4_5_2_3 fm_4_5_2_3 nd_4_5_2_3 sm_0_1 nd_0_1 dj_4_5_2_3__0_1 rfl rfl rfl rfl rfl (Nat.le_of_ble_eq_true rfl) rm_30_8_3 ⟨Nat.le_of_ble_eq_true rfl, Nat.le_of_ble_eq_true rfl⟩ gX10_takesLine_6.2.1 (fun r3461 => Ktu6 fun ks13463 tf13464 gtln3465 x13466 y13467 z13468 => ?_)
    intro H locs hr3461 hP hD hS
    try dsimp only at hr3461
    refine Kpdr (ws := [(tsp, oX8 120 1 tspc (nI ksp)), (tspc, iA G 120 ftsp), (h0, oX10 tby (nI kt) tln tsp (CKD fby kt ks13463) (nI ks13463) (nI (TKE fby kt ks13463)) tf13464), (tby, iA G 240 fby), (tln, oX8 9 7 tlnc (nI (kln + 1))), (tlnc, iA G 63 gtln3465)]) hP hD (fun hP hD => ?_)
    rcases hr3461 with ⟨rfl, a3469⟩ | ⟨rfl, a3469⟩
    · obtain ⟨hq3470, rfl, hq3471⟩ := a3469
      have xl3472 := HDQ.gt hq3470 (by omega)
      refine lv_if_ne (tgt := 117) hx hb gX10_takesLine_6.2.2.1 (by decide) (fun _ => ?_) (fun c9 => absurd c9 (by decide))
      refine lv_iload_n hx hb gX10_takesLine_6.2.2.2.2.2.1 rfl (lv_at0 hl) ?_
      refine lv_iconst (v := 3) hx hb gX10_takesLine_6.2.2.2.2.2.2.1 (by decide) ?_
      refine lv_icmp_eq (tgt := 182) hx hb gX10_takesLine_6.2.2.2.2.2.2.2.1 (by decide) (fun _ => ?_) (fun c9 => absurd (by decide) c9)
      refine lv_aload_n hx hb gX10_takesLine_10.1 rfl (lv_at2 hl) ?_
      refine lv_bipush (v := 59) hx hb gX10_takesLine_10.2.1 (by decide) ?_
      refine iV (wr := [(tsp, oX8 120 1 tspc (nI ksp)), (tspc, iA G 120 ftsp), (tln, oX8 9 7 tlnc (nI (kln + 1))), (tlnc, iA G 63 gtln3465)]) hC hK hl hP hD hS hA (t_takesByte l G h0 59 tby kt tln tsp ks13463 tf9 fby (hkt) (by omega) (hBB) (by decide)) si_X10_124 [2, 3] [0, 1, 4, 5] sm_2_3 fm_2_3 nd_2_3 sm_0_1_4_5 nd_0_1_4_5 dj_2_3__0_1_4_5 rfl rfl rfl rfl rfl (Nat.le_of_ble_eq_true rfl) rm_30_4_2 ⟨Nat.le_of_ble_eq_true rfl, Nat.le_of_ble_eq_true rfl⟩ gX10_takesLine_10.2.2.1 (fun r3473 => Ktu2 fun ks13475 tf13476 => ?_)
      intro H locs hr3473 hP hD hS
      try dsimp only at hr3473
      refine Kpdr (ws := [(tsp, oX8 120 1 tspc (nI ksp)), (tspc, iA G 120 ftsp), (tln, oX8 9 7 tlnc (nI (kln + 1))), (tlnc, iA G 63 gtln3465), (h0, oX10 tby (nI kt) tln tsp (CKD fby kt ks13475) (nI ks13475) (nI (TKE fby kt ks13475)) tf13476), (tby, iA G 240 fby)]) hP hD (fun hP hD => ?_)
      rcases hr3473 with ⟨rfl, a3477⟩ | ⟨rfl, a3477⟩
      · obtain ⟨hq3478, rfl, rfl⟩ := a3477
        have xl3479 := SGN.len hq3478 (by omega)
        refine toQ hQ0 ?_
        exact RI (v := 1) hC hP hD hS [4, 5, 2, 3, 0, 1] ((NXT fby kt ks13463), tf9, (kln + 1), gtln3465, ksp, ftsp, (3, x13466, y13467, z13468, 0, cs.length, cs.length, rs.length, rs.length), cs, rs) rfl rfl (by decide) (Or.inl ⟨rfl, Or.inr ⟨3, hq3453, Or.inr ⟨ks13463, x13466, y13467, z13468, hq3470, Or.inl ⟨(fun h9 => h9.1 rfl), Or.inr ⟨hq3478, rfl⟩⟩⟩⟩, hST, (by rw [hs1]; exact LNW.no hq3471 _ _), rfl, rfl, by (try dsimp only); omega, by (try dsimp only); omega⟩) (by decide +kernel) gX10_takesLine_10.2.2.2
      · obtain ⟨hq3480, rfl, rfl⟩ := a3477
        refine toQ hQ0 ?_
        exact RI (v := 0) hC hP hD hS [4, 5, 2, 3, 0, 1] (ks13463, nI ks13463, (kln + 1), gtln3465, ksp, ftsp, LN0, [], []) rfl rfl (by decide) (Or.inr ⟨rfl, Or.inr ⟨3, hq3453, Or.inr ⟨ks13463, x13466, y13467, z13468, hq3470, Or.inl ⟨(fun h9 => h9.1 rfl), Or.inl ⟨hq3480, rfl⟩⟩⟩⟩, rfl, by (try dsimp only); omega, by (try dsimp only); omega, by (try dsimp only); omega⟩) (by decide +kernel) gX10_takesLine_10.2.2.2
    · obtain ⟨hq3481, rfl, hq3482⟩ := a3469
      refine lv_if_ne (tgt := 117) hx hb gX10_takesLine_6.2.2.1 (by decide) (fun c9 => absurd (by decide) c9) (fun _ => ?_)
      refine lv_iconst (v := 0) hx hb gX10_takesLine_6.2.2.2.1 (by decide) ?_
      refine toQ hQ0 ?_
      exact RI (v := 0) hC hP hD hS [2, 3, 4, 5, 0, 1] (ks13463, nI ks13463, (kln + 1), gtln3465, ksp, ftsp, LN0, [], []) rfl rfl (by decide) (Or.inr ⟨rfl, Or.inr ⟨3, hq3453, Or.inl ⟨_, hq3481, rfl⟩⟩, rfl, by (try dsimp only); omega, by (try dsimp only); omega, by (try dsimp only); omega⟩) (by decide +kernel) gX10_takesLine_6.2.2.2.2.1
def K_t_lineF (l : Launch) (G : GG) (K : OO) (h0 : Nat) (tby : Nat) (kt : Nat) (tln : Nat) (tsp : Nat) (ks : Nat) (tf9 : Int32) (fby : Nat → Int32) (tlnc : Nat) (kln : Nat) (ftln : Nat → Int32) (tspc : Nat) (ksp : Nat) (ftsp : Nat → Int32) : Prop := MIo l G K yX10_takesLine cX10_takesLine 3 (some .boolean) 30 0 0 [.ref h0] [(h0, oX10 tby (nI kt) tln tsp (CKD fby kt ks) (nI ks) (nI (TKE fby kt ks)) tf9), (tby, iA G 240 fby), (tln, oX8 9 7 tlnc (nI kln)), (tlnc, iA G 63 ftln), (tsp, oX8 120 1 tspc (nI ksp)), (tspc, iA G 120 ftsp)] (fun (r : Int32) (u : Unit) => (r = 0)) (fun u : Unit => [(h0, oX10 tby (nI kt) tln tsp (CKD fby kt ks) (nI ks) (nI (TKE fby kt ks)) (nI ks)), (tby, iA G 240 fby), (tln, oX8 9 7 tlnc (nI kln)), (tlnc, iA G 63 ftln), (tsp, oX8 120 1 tspc (nI ksp)), (tspc, iA G 120 ftsp)])
set_option maxHeartbeats 4000000 in
set_option maxRecDepth 100000 in
theorem t_lineF (l : Launch) (G : GG) (K : OO) (h0 : Nat) (tby : Nat) (kt : Nat) (tln : Nat) (tsp : Nat) (ks : Nat) (tf9 : Int32) (fby : Nat → Int32) (tlnc : Nat) (kln : Nat) (ftln : Nat → Int32) (tspc : Nat) (ksp : Nat) (ftsp : Nat → Int32) (hkt : kt ≤ 240) (hks : ks ≤ kt) (hBB : BNN fby kt) (hkl9 : 9 ≤ kln) (hkln : kln ≤ 9) : K_t_lineF l G K h0 tby kt tln tsp ks tf9 fby tlnc kln ftln tspc ksp ftsp := by
  refine MIo.start (by decide +kernel) (Nat.le_of_ble_eq_true rfl) ?_
  intro p e s m below meth c A ls hC hK hP hD hS hA hl hO
  refine absQ (fun Q0 hQ0 => ?_)
  have hl : lv_has ls 3 [(0, .ref h0)] := hl
  refine Kan8 hC (fun hx hb hr hml hB hown hlocks hnm => ?_)
  refine lv_aload_n hx hb gX10_takesLine_0.1 rfl (lv_at0 hl) ?_
  refine gf_X10_20 hC rfl hK hP 0 rfl rfl gX10_takesLine_0.2.1 ?_
  refine iV (wr := [(h0, oX10 tby (nI kt) tln tsp (CKD fby kt ks) (nI ks) (nI (TKE fby kt ks)) tf9), (tby, iA G 240 fby), (tlnc, iA G 63 ftln), (tsp, oX8 120 1 tspc (nI ksp)), (tspc, iA G 120 ftsp)]) hC hK hl hP hD hS hA (c_T_appendF l G tln 9 7 tlnc kln (hkl9) (by omega)) si_X10_59 [2] [0, 1, 3, 4, 5] sm_2 fm_2 nd_2 sm_0_1_3_4_5 nd_0_1_3_4_5 dj_2__0_1_3_4_5 rfl rfl rfl rfl rfl (Nat.le_of_ble_eq_true rfl) rm_30_1_1 ⟨Nat.le_of_ble_eq_true rfl, Nat.le_of_ble_eq_true rfl⟩ gX10_takesLine_0.2.2.1 (fun r3483 u3484 H locs hr3483 hP hD hS => ?_)
  refine Kpdr (ws := [(h0, oX10 tby (nI kt) tln tsp (CKD fby kt ks) (nI ks) (nI (TKE fby kt ks)) tf9), (tby, iA G 240 fby), (tlnc, iA G 63 ftln), (tsp, oX8 120 1 tspc (nI ksp)), (tspc, iA G 120 ftsp), (tln, oX8 9 7 tlnc (nI kln))]) hP hD (fun hP hD => ?_)
  obtain rfl := hr3483
  refine lv_istore_n (lv' := [(1, .int (-2)), (0, .ref h0)]) hx hb gX10_takesLine_0.2.2.2.1 rfl hl (by decide) rfl (fun ls hl => ?_)
  refine lv_iload_n hx hb gX10_takesLine_0.2.2.2.2.1 rfl (lv_at0 hl) ?_
  refine lv_if_ge (tgt := 17) hx hb gX10_takesLine_0.2.2.2.2.2.1 (by decide) (fun c9 => absurd c9 (by decide)) (fun _ => ?_)
  refine lv_aload_n hx hb gX10_takesLine_0.2.2.2.2.2.2.1 rfl (lv_at1 hl) ?_
  refine iV (wr := [(tby, iA G 240 fby), (tlnc, iA G 63 ftln), (tsp, oX8 120 1 tspc (nI ksp)), (tspc, iA G 120 ftsp), (tln, oX8 9 7 tlnc (nI kln))]) hC hK hl hP hD hS hA (t_refuseX l G h0 tby kt tln tsp (CKD fby kt ks) ks (TKE fby kt ks) tf9) si_X10_106 [0] [1, 2, 3, 4, 5] sm_0 fm_0 nd_0 sm_1_2_3_4_5 nd_1_2_3_4_5 dj_0__1_2_3_4_5 rfl rfl rfl rfl rfl (Nat.le_of_ble_eq_true rfl) rm_30_1_1 ⟨Nat.le_of_ble_eq_true rfl, Nat.le_of_ble_eq_true rfl⟩ gX10_takesLine_0.2.2.2.2.2.2.2.1 (fun r3486 u3487 H locs hr3486 hP hD hS => ?_)
  refine Kpdr (ws := [(tby, iA G 240 fby), (tlnc, iA G 63 ftln), (tsp, oX8 120 1 tspc (nI ksp)), (tspc, iA G 120 ftsp), (tln, oX8 9 7 tlnc (nI kln)), (h0, oX10 tby (nI kt) tln tsp (CKD fby kt ks) (nI ks) (nI (TKE fby kt ks)) (nI ks))]) hP hD (fun hP hD => ?_)
  obtain rfl := hr3486
  refine toQ hQ0 ?_
  exact RI (v := 0) hC hP hD hS [5, 0, 4, 1, 2, 3] () rfl rfl (by decide) (rfl) (by decide +kernel) gX10_takesLine_0.2.2.2.2.2.2.2.2.1
def K_t_scan (l : Launch) (G : GG) (K : OO) (h0 : Nat) (tby : Nat) (kt : Nat) (tln : Nat) (tsp : Nat) (tkd : Int32) (ts9 : Int32) (tn9 : Int32) (tf9 : Int32) (fby : Nat → Int32) (tlnc : Nat) (kln : Nat) (ftln : Nat → Int32) (tspc : Nat) (ksp : Nat) (ftsp : Nat → Int32) : Prop := MIo l G K yX10_scan cX10_scan 2 (some .int) 31 0 0 [.ref h0] [(h0, oX10 tby (nI kt) tln tsp tkd ts9 tn9 tf9), (tby, iA G 240 fby), (tln, oX8 9 7 tlnc (nI kln)), (tlnc, iA G 63 ftln), (tsp, oX8 120 1 tspc (nI ksp)), (tspc, iA G 120 ftsp)] (fun (r : Int32) (u : Nat × Int32 × Nat × (Nat → Int32) × Nat × (Nat → Int32) × (List LNT) × (List Int32) × (List Int32)) => ((r = (-1) ∧ TXT fby kt 9 (SK fby kt 0) [] [] [] (1, 0, u.2.2.2.2.2.2.1, u.2.2.2.2.2.2.2.1, u.2.2.2.2.2.2.2.2) ∧ LNS u.2.2.1 u.2.2.2.1 u.2.2.2.2.2.2.1 ∧ STP u.2.2.2.2.1 u.2.2.2.2.2.1 u.2.2.2.2.2.2.2.1 ∧ u.1 ≤ kt ∧ u.2.2.1 ≤ 9 ∧ u.2.2.2.2.1 ≤ 120) ∨ (r = nI u.1 ∧ TXT fby kt 9 (SK fby kt 0) [] [] [] (0, u.1, [], [], []) ∧ u.1 ≤ kt ∧ u.2.2.1 ≤ 9 ∧ u.2.2.2.2.1 ≤ 120))) (fun u : Nat × Int32 × Nat × (Nat → Int32) × Nat × (Nat → Int32) × (List LNT) × (List Int32) × (List Int32) => [(h0, oX10 tby (nI kt) tln tsp (CKD fby kt u.1) (nI u.1) (nI (TKE fby kt u.1)) u.2.1), (tby, iA G 240 fby), (tln, oX8 9 7 tlnc (nI u.2.2.1)), (tlnc, iA G 63 u.2.2.2.1), (tsp, oX8 120 1 tspc (nI u.2.2.2.2.1)), (tspc, iA G 120 u.2.2.2.2.2.1)])
set_option maxHeartbeats 4000000 in
set_option maxRecDepth 100000 in
theorem t_scan (l : Launch) (G : GG) (K : OO) (h0 : Nat) (tby : Nat) (kt : Nat) (tln : Nat) (tsp : Nat) (tkd : Int32) (ts9 : Int32) (tn9 : Int32) (tf9 : Int32) (fby : Nat → Int32) (tlnc : Nat) (kln : Nat) (ftln : Nat → Int32) (tspc : Nat) (ksp : Nat) (ftsp : Nat → Int32) (hkt : kt ≤ 240) (hBB : BNN fby kt) (hkln : kln ≤ 9) (hksp : ksp ≤ 120) : K_t_scan l G K h0 tby kt tln tsp tkd ts9 tn9 tf9 fby tlnc kln ftln tspc ksp ftsp := by
  refine MIo.start (by decide +kernel) (Nat.le_of_ble_eq_true rfl) ?_
  intro p e s m below meth c A ls hC hK hP hD hS hA hl hO
  refine absQ (fun Q0 hQ0 => ?_)
  have hl : lv_has ls 2 [(0, .ref h0)] := hl
  refine Kan8 hC (fun hx hb hr hml hB hown hlocks hnm => ?_)
  refine lv_aload_n hx hb gX10_scan_0.1 rfl (lv_at0 hl) ?_
  refine gf_X10_20 hC rfl hK hP 0 rfl rfl gX10_scan_0.2.1 ?_
  refine lv_iconst (v := 0) hx hb gX10_scan_0.2.2.1 (by decide) ?_
  refine vV (wr := [(h0, oX10 tby (nI kt) tln tsp tkd ts9 tn9 tf9), (tby, iA G 240 fby), (tlnc, iA G 63 ftln), (tsp, oX8 120 1 tspc (nI ksp)), (tspc, iA G 120 ftsp)]) hC hK hl hP hD hS hA (c_T_cut0 l G tln 9 7 tlnc kln (by omega)) si_X10_43 [2] [0, 1, 3, 4, 5] sm_2 fm_2 nd_2 sm_0_1_3_4_5 nd_0_1_3_4_5 dj_2__0_1_3_4_5 rfl rfl rfl rfl rfl (Nat.le_of_ble_eq_true rfl) rm_31_1_2 ⟨Nat.le_of_ble_eq_true rfl, Nat.le_of_ble_eq_true rfl⟩ gX10_scan_0.2.2.2.1 (fun u3490 H locs hr3489 hP hD hS => ?_)
  refine Kpdr (ws := [(h0, oX10 tby (nI kt) tln tsp tkd ts9 tn9 tf9), (tby, iA G 240 fby), (tlnc, iA G 63 ftln), (tsp, oX8 120 1 tspc (nI ksp)), (tspc, iA G 120 ftsp), (tln, oX8 9 7 tlnc 0)]) hP hD (fun hP hD => ?_)
  refine lv_aload_n hx hb gX10_scan_0.2.2.2.2.1 rfl (lv_at0 hl) ?_
  refine gf_X10_24 hC rfl hK hP 0 rfl rfl gX10_scan_0.2.2.2.2.2.1 ?_
  refine lv_iconst (v := 0) hx hb gX10_scan_0.2.2.2.2.2.2.1 (by decide) ?_
  refine vV (wr := [(h0, oX10 tby (nI kt) tln tsp tkd ts9 tn9 tf9), (tby, iA G 240 fby), (tlnc, iA G 63 ftln), (tspc, iA G 120 ftsp), (tln, oX8 9 7 tlnc 0)]) hC hK hl hP hD hS hA (c_T_cut0 l G tsp 120 1 tspc ksp (by omega)) si_X10_43 [3] [0, 1, 2, 4, 5] sm_3 fm_3 nd_3 sm_0_1_2_4_5 nd_0_1_2_4_5 dj_3__0_1_2_4_5 rfl rfl rfl rfl rfl (Nat.le_of_ble_eq_true rfl) rm_31_1_2 ⟨Nat.le_of_ble_eq_true rfl, Nat.le_of_ble_eq_true rfl⟩ gX10_scan_0.2.2.2.2.2.2.2.1 (fun u3492 H locs hr3491 hP hD hS => ?_)
  refine Kpdr (ws := [(h0, oX10 tby (nI kt) tln tsp tkd ts9 tn9 tf9), (tby, iA G 240 fby), (tlnc, iA G 63 ftln), (tspc, iA G 120 ftsp), (tln, oX8 9 7 tlnc 0), (tsp, oX8 120 1 tspc 0)]) hP hD (fun hP hD => ?_)
  refine lv_aload_n hx hb gX10_scan_0.2.2.2.2.2.2.2.2.1 rfl (lv_at0 hl) ?_
  refine lv_iconst (v := (-1)) hx hb gX10_scan_0.2.2.2.2.2.2.2.2.2 (by decide) ?_
  refine pf_X10_40 hC rfl hK hP hD hS 0 (ws' := [(h0, oX10 tby (nI kt) tln tsp tkd ts9 tn9 (-1)), (tby, iA G 240 fby), (tlnc, iA G 63 ftln), (tspc, iA G 120 ftsp), (tln, oX8 9 7 tlnc 0), (tsp, oX8 120 1 tspc 0)]) rfl (Nat.le_of_ble_eq_true rfl) rfl rfl rfl gX10_scan_1.1 (fun H locs hP hD hS => ?_)
  refine lv_aload_n hx hb gX10_scan_1.2.1 rfl (lv_at0 hl) ?_
  refine lv_iconst (v := 0) hx hb gX10_scan_1.2.2.1 (by decide) ?_
  refine pf_X10_37 hC rfl hK hP hD hS 0 (ws' := [(h0, oX10 tby (nI kt) tln tsp tkd ts9 0 (-1)), (tby, iA G 240 fby), (tlnc, iA G 63 ftln), (tspc, iA G 120 ftsp), (tln, oX8 9 7 tlnc 0), (tsp, oX8 120 1 tspc 0)]) rfl (Nat.le_of_ble_eq_true rfl) rfl rfl rfl gX10_scan_1.2.2.2.1 (fun H locs hP hD hS => ?_)
  refine lv_aload_n hx hb gX10_scan_1.2.2.2.2.1 rfl (lv_at0 hl) ?_
  refine vV (wr := [(tlnc, iA G 63 ftln), (tspc, iA G 120 ftsp), (tln, oX8 9 7 tlnc 0), (tsp, oX8 120 1 tspc 0)]) hC hK hl hP hD hS hA (t_adv l G h0 tby kt tln tsp tkd ts9 0 (-1) fby (hkt) (by omega) (hBB)) si_X10_47 [0, 1] [2, 3, 4, 5] sm_0_1 fm_0_1 nd_0_1 sm_2_3_4_5 nd_2_3_4_5 dj_0_1__2_3_4_5 rfl rfl rfl rfl rfl (Nat.le_of_ble_eq_true rfl) rm_31_3_1 ⟨Nat.le_of_ble_eq_true rfl, Nat.le_of_ble_eq_true rfl⟩ gX10_scan_1.2.2.2.2.2.1 (fun u3494 H locs hr3493 hP hD hS => ?_)
  refine Kpdr (ws := [(tlnc, iA G 63 ftln), (tspc, iA G 120 ftsp), (tln, oX8 9 7 tlnc 0), (tsp, oX8 120 1 tspc 0), (h0, oX10 tby (nI kt) tln tsp (CKD fby kt (SK fby kt 0)) (nI (SK fby kt 0)) (nI (TKE fby kt (SK fby kt 0))) (-1)), (tby, iA G 240 fby)]) hP hD (fun hP hD => ?_)
  have hsk0 := (SK.sp (bt := fby) (n := kt) (i := 0) (Nat.zero_le _)).2.1
  refine lv_iconst (v := 0) hx hb gX10_scan_1.2.2.2.2.2.2.1 (by decide) ?_
  refine lv_istore_n (lv' := [(1, .int 0), (0, .ref h0)]) hx hb gX10_scan_1.2.2.2.2.2.2.2.1 rfl hl (by decide) rfl (fun ls hl => ?_)
  have keyP : ∀ (nP : Nat) (vks : Nat) (vkl : Nat) (vtln : Nat → Int32) (vksp : Nat) (vtsp : Nat → Int32) (H : Heap) (locs : List Loc) (ls : Array Slot), (vkl ≤ 9 ∧ 3 * vksp ≤ vks ∧ vks ≤ kt ∧ 10 ≤ vkl + nP) → (TXW fby kt (SK fby kt 0) vkl vks vksp vtln vtsp) → va_PD G A [(tlnc, iA G 63 vtln), (tspc, iA G 120 vtsp), (tln, oX8 9 7 tlnc (nI vkl)), (tsp, oX8 120 1 tspc (nI vksp)), (h0, oX10 tby (nI kt) tln tsp (CKD fby kt vks) (nI vks) (nI (TKE fby kt vks)) (-1)), (tby, iA G 240 fby)] H → va_S A s.heap H locs → lv_has ls 2 [(1, .int (nI vkl)), (0, .ref h0)] → W p l e (RM 31 0 0) s m ([.ref h0] : List Value).toArray below meth c H locs 0 0 Q0 (F0 m 32 ls []) := by
    intro nP
    induction nP with
    | zero =>
      intro vks vkl vtln vksp vtsp H locs ls hiP hrw hPD hS hl
      refine Kan2 hPD (fun hP hD => ?_)
      exact (show False by omega).elim
    | succ nP ihP =>
      intro vks vkl vtln vksp vtsp H locs ls hiP hrw hPD hS hl
      refine Kan2 hPD (fun hP hD => ?_)
      have tkv := TKE.ge (bt := fby) (n := kt) (s := vks) (by omega)
      obtain ⟨l9, c9, q9, hln9, hst9, hco9⟩ := hrw
      have hsl9 := hst9.1
      refine lv_iload_n hx hb gX10_scan_1.2.2.2.2.2.2.2.2.1 rfl (lv_at0 hl) ?_
      refine lv_bipush (v := 9) hx hb gX10_scan_1.2.2.2.2.2.2.2.2.2 (by decide) ?_
      refine lv_icmp_gt (tgt := 64) hx hb gX10_scan_2.1 (by decide) (fun c9 => absurd c9 (nI_nlt (a := 9) (b := vkl) (by omega) (by omega))) (fun _ => ?_)
      refine lv_aload_n hx hb gX10_scan_2.2.1 rfl (lv_at1 hl) ?_
      refine gf_X10_31 hC rfl hK hP 4 rfl rfl gX10_scan_2.2.2.1 ?_
      refine lv_iconst (v := (-1)) hx hb gX10_scan_2.2.2.2.1 (by decide) ?_
      refine lv_icmp_eq (tgt := 64) hx hb gX10_scan_2.2.2.2.2.1 (by decide) (fun c_43_3495 => ?_) (fun c_43_3495 => ?_)
      · refine lv_aload_n hx hb gX10_scan_3.2.2.2.1 rfl (lv_at1 hl) ?_
        refine gf_X10_40 hC rfl hK hP 4 rfl rfl gX10_scan_3.2.2.2.2.1 ?_
        refine toQ hQ0 ?_
        exact RI (v := (-1)) hC hP hD hS [4, 5, 2, 0, 3, 1] (vks, (-1), vkl, vtln, vksp, vtsp, l9, c9, q9) rfl rfl (by decide) (Or.inl ⟨rfl, hco9 _ (TXT.end ((CKD.en hBB).mp c_43_3495) _), hln9, hst9, by (try dsimp only); omega, by (try dsimp only); omega, by (try dsimp only); omega⟩) rfl gX10_scan_3.2.2.2.2.2
      · have htk9 : ¬ TKN fby kt vks = 0 := fun h9 => c_43_3495 ((CKD.en hBB).mpr h9)
        rcases Nat.lt_or_ge vkl 9 with hl99 | hl99
        · refine lv_aload_n hx hb gX10_scan_2.2.2.2.2.2.1 rfl (lv_at1 hl) ?_
          refine iVo (wr := []) hO hC hK hl hP hD hS hA (t_line l G K h0 tby kt tln tsp vks (-1) fby tlnc vkl vtln tspc vksp vtsp c9 q9 (hkt) (by omega) (hBB) (hst9) (by omega) (by omega)) si_X10_50 [4, 5, 2, 0, 3, 1] [] sm_4_5_2_0_3_1 fm_4_5_2_0_3_1 nd_4_5_2_0_3_1 rfl rfl (by decide) rfl rfl rfl rfl rfl (Nat.le_of_ble_eq_true rfl) rm_31_30_3 ⟨Nat.le_of_ble_eq_true rfl, Nat.le_of_ble_eq_true rfl⟩ gX10_scan_2.2.2.2.2.2.2.1 (fun r3496 => Ktu9 fun ks13498 tf13499 kln13500 gtln3501 ksp13502 gtsp3503 ln3504 c13505 r13506 => ?_)
          intro H locs hr3496 hP hD hS
          try dsimp only at hr3496
          refine Kpdr (ws := [(h0, oX10 tby (nI kt) tln tsp (CKD fby kt ks13498) (nI ks13498) (nI (TKE fby kt ks13498)) tf13499), (tby, iA G 240 fby), (tln, oX8 9 7 tlnc (nI kln13500)), (tlnc, iA G 63 gtln3501), (tsp, oX8 120 1 tspc (nI ksp13502)), (tspc, iA G 120 gtsp3503)]) hP hD (fun hP hD => ?_)
          rcases hr3496 with ⟨rfl, a3507⟩ | ⟨rfl, a3507⟩
          · obtain ⟨hq3508, hq3509, hq3510, rfl, rfl, hq3511, hq3512⟩ := a3507
            have xl3513 := hq3509.1
            refine lv_if_ne (tgt := 58) hx hb gX10_scan_2.2.2.2.2.2.2.2.1 (by decide) (fun _ => ?_) (fun c9 => absurd c9 (by decide))
            refine lv_iinc (v := nI (vkl + 1)) (lv' := [(1, .int (nI (vkl + 1))), (0, .ref h0)]) hx hb gX10_scan_3.2.1 hl (k := 0) rfl (nI_1 _) (by decide) rfl (fun ls hl => ?_)
            refine lv_goto (tgt := 32) hx hb gX10_scan_3.2.2.1 (by decide) ?_
            refine Kpds (ws' := [(tlnc, iA G 63 gtln3501), (tspc, iA G 120 gtsp3503), (tln, oX8 9 7 tlnc (nI (vkl + 1))), (tsp, oX8 120 1 tspc (nI ksp13502)), (h0, oX10 tby (nI kt) tln tsp (CKD fby kt ks13498) (nI ks13498) (nI (TKE fby kt ks13498)) (-1)), (tby, iA G 240 fby)]) hP hD [3, 5, 2, 4, 0, 1] fm_3_5_2_4_0_1 nd_3_5_2_4_0_1 sm_3_5_2_4_0_1 (fun hP hD => ?_)
            exact ihP ks13498 (vkl + 1) gtln3501 ksp13502 gtsp3503 _ _ _ (by omega) (⟨_, _, _, LNS.push hln9 hq3510, hq3509, fun q h9 => hco9 q (TXT.step (by omega) htk9 hq3508 h9)⟩) (And.intro hP hD) hS (lv_sub hl [0, 1] rfl)
          · obtain ⟨hq3514, rfl, hq3515, hq3516, hq3517⟩ := a3507
            refine lv_if_ne (tgt := 58) hx hb gX10_scan_2.2.2.2.2.2.2.2.1 (by decide) (fun c9 => absurd (by decide) c9) (fun _ => ?_)
            refine lv_aload_n hx hb gX10_scan_2.2.2.2.2.2.2.2.2.1 rfl (lv_at1 hl) ?_
            refine gf_X10_40 hC rfl hK hP 0 rfl rfl gX10_scan_2.2.2.2.2.2.2.2.2.2 ?_
            refine toQ hQ0 ?_
            exact RI (v := nI ks13498) hC hP hD hS [0, 1, 2, 3, 4, 5] (ks13498, nI ks13498, kln13500, gtln3501, ksp13502, gtsp3503, [], [], []) rfl rfl (by decide) (Or.inr ⟨rfl, hco9 _ (TXT.bad (by omega) htk9 hq3514), by (try dsimp only); omega, by (try dsimp only); omega, by (try dsimp only); omega⟩) rfl gX10_scan_3.1
        · refine lv_aload_n hx hb gX10_scan_2.2.2.2.2.2.1 rfl (lv_at1 hl) ?_
          refine iVo (wr := []) hO hC hK hl hP hD hS hA (t_lineF l G K h0 tby kt tln tsp vks (-1) fby tlnc vkl vtln tspc vksp vtsp (hkt) (by omega) (hBB) (by omega) (by omega)) si_X10_50 [4, 5, 2, 0, 3, 1] [] sm_4_5_2_0_3_1 fm_4_5_2_0_3_1 nd_4_5_2_0_3_1 rfl rfl (by decide) rfl rfl rfl rfl rfl (Nat.le_of_ble_eq_true rfl) rm_31_30_3 ⟨Nat.le_of_ble_eq_true rfl, Nat.le_of_ble_eq_true rfl⟩ gX10_scan_2.2.2.2.2.2.2.1 (fun r3518 u3519 H locs hr3518 hP hD hS => ?_)
          refine Kpdr (ws := [(h0, oX10 tby (nI kt) tln tsp (CKD fby kt vks) (nI vks) (nI (TKE fby kt vks)) (nI vks)), (tby, iA G 240 fby), (tln, oX8 9 7 tlnc (nI vkl)), (tlnc, iA G 63 vtln), (tsp, oX8 120 1 tspc (nI vksp)), (tspc, iA G 120 vtsp)]) hP hD (fun hP hD => ?_)
          obtain rfl := hr3518
          refine lv_if_ne (tgt := 58) hx hb gX10_scan_2.2.2.2.2.2.2.2.1 (by decide) (fun c9 => absurd (by decide) c9) (fun _ => ?_)
          refine lv_aload_n hx hb gX10_scan_2.2.2.2.2.2.2.2.2.1 rfl (lv_at1 hl) ?_
          refine gf_X10_40 hC rfl hK hP 0 rfl rfl gX10_scan_2.2.2.2.2.2.2.2.2.2 ?_
          refine toQ hQ0 ?_
          exact RI (v := nI vks) hC hP hD hS [0, 1, 2, 3, 4, 5] (vks, nI vks, vkl, vtln, vksp, vtsp, [], [], []) rfl rfl (by decide) (Or.inr ⟨rfl, hco9 _ (TXT.full (by omega) htk9), by (try dsimp only); omega, by (try dsimp only); omega, by (try dsimp only); omega⟩) rfl gX10_scan_3.1
  exact keyP 10 (SK fby kt 0) 0 ftln 0 ftsp _ _ _ (by omega) (TXW.zero) (And.intro hP hD) hS (lv_sub hl [0, 1] rfl)
