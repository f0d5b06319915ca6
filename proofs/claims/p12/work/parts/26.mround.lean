section WR
variable {p : Program} {l : Launch} {e : Env} {R : Room} {s : State} {m : MethodId} {args : Array Value} {below : List Frame} {meth : Method} {c : Code} {H : Heap} {locs : List Loc} {cells slots : Nat} {Q : State → Prop}
variable {pc : Nat} {ls : Array Slot} {rest : List Value} {G : GG} {ws : va_W} {A : Nat → Prop} {y0 : MethodName} {b0 : ByteArray} {mL0 : Nat} {rt0 : Option FieldType} {a : Nat} {H0 : Heap}
end WR
theorem shf_st {f : Nat → Int32} {s c : Nat} : shf f 104 (s * 3 + c) = f (104 + 3 * s + c) := congrArg f (by omega)
theorem cntS_mono {f : Nat → Int32} {p : Int32} {s n : Nat} (h : s ≤ n) : cntS f p s ≤ cntS f p n := by
  induction n with
  | zero =>
    obtain rfl : s = 0 := by omega
    exact Nat.le_refl _
  | succ n ih =>
    by_cases c : s = n + 1
    · subst c
      exact Nat.le_refl _
    · have h1 := ih (by omega)
      by_cases d : f (104 + 3 * n) = p
      · rw [cntS_t d]
        omega
      · rw [cntS_f d]
        exact h1
theorem cntS_lt {f : Nat → Int32} {p : Int32} {s n : Nat} (h : s < n) (e : f (104 + 3 * s) = p) : cntS f p s < cntS f p n := by
  have h1 := cntS_mono (f := f) (p := p) (show s + 1 ≤ n by omega)
  rw [cntS_t e] at h1
  omega
/-- the i-th stamp of a paper -/
def STQ (f : Nat → Int32) (p k i s : Nat) : Prop := s < k ∧ f (104 + 3 * s) = nI p ∧ cntS f (nI p) s = i
theorem STQ.uniq {f : Nat → Int32} {p k i a b : Nat} (h1 : STQ f p k i a) (h2 : STQ f p k i b) : a = b := by
  have e1 := h1.2.2
  have e2 := h2.2.2
  rcases Nat.lt_trichotomy a b with c | c | c
  · have h3 := cntS_lt c h1.2.1
    omega
  · exact c
  · have h3 := cntS_lt c h2.2.1
    omega
theorem STQ.prc {f : Nat → Int32} {V : Nat → Prop} {p k i a b : Nat} (h1 : STQ f p k (i - 1) a) (h2 : STQ f p k i b) (hi : 1 ≤ i) (hp : p < 2 ^ 31) (hv : V p) : PRC (shf f 104) V a b := by
  obtain ⟨a1, a2, a3⟩ := h1
  obtain ⟨b1, b2, b3⟩ := h2
  have ea : shf f 104 (a * 3 + 0) = nI p := (shf_st (f := f) (s := a) (c := 0)).trans a2
  have eb : shf f 104 (b * 3 + 0) = nI p := (shf_st (f := f) (s := b) (c := 0)).trans b2
  refine ⟨?_, ea.trans eb.symm, by rw [eb, nI_clamp hp]; exact hv, fun s h3 h4 e => ?_⟩
  · by_cases c : a < b
    · exact c
    · have h5 := cntS_mono (f := f) (p := nI p) (show b ≤ a by omega)
      omega
  · have es : f (104 + 3 * s) = nI p := (shf_st (f := f) (s := s) (c := 0)).symm.trans (e.trans eb)
    have h5 := cntS_lt h3 a2
    have h6 := cntS_lt h4 es
    omega
theorem cntS_gap {f : Nat → Int32} {p : Int32} {a : Nat} : ∀ d, (∀ s, a < s → s < a + 1 + d → ¬ f (104 + 3 * s) = p) → f (104 + 3 * a) = p → cntS f p (a + 1 + d) = cntS f p a + 1
  | 0, _, e => cntS_t e
  | d + 1, h, e => by
    have h1 := cntS_gap d (fun s h1 h2 => h s h1 (by omega)) e
    have h2 := cntS_f (f := f) (p := p) (n := a + 1 + d) (h (a + 1 + d) (by omega) (by omega))
    exact h2.trans h1
theorem PRC.stq {f : Nat → Int32} {V : Nat → Prop} {p k a b : Nat} (h : PRC (shf f 104) V a b) (e : f (104 + 3 * b) = nI p) (hb : b < k) : ∃ i, 1 ≤ i ∧ STQ f p k (i - 1) a ∧ STQ f p k i b := by
  obtain ⟨h1, h2, -, h4⟩ := h
  have eb : shf f 104 (b * 3 + 0) = nI p := (shf_st (f := f) (s := b) (c := 0)).trans e
  have ea : f (104 + 3 * a) = nI p := (shf_st (f := f) (s := a) (c := 0)).symm.trans (h2.trans eb)
  have hc := cntS_gap (f := f) (p := nI p) (a := a) (b - (a + 1)) (fun s h5 h6 h7 => h4 s h5 (by omega) (((shf_st (f := f) (s := s) (c := 0)).trans h7).trans eb.symm)) ea
  rw [show a + 1 + (b - (a + 1)) = b by omega] at hc
  exact ⟨cntS f (nI p) a + 1, by omega, ⟨by omega, ea, by omega⟩, ⟨hb, e, hc⟩⟩
def GPRm (g : Int32) : Prop := 0 ≤ g.toInt ∧ g.toInt ≤ 99
/-- what two stamps bind, either way -/
def TWO (ft : Nat → Int32) (gp : Int) (a b x y : Nat) (w : Int) : Prop := (x = CKS ft a ∧ y = CKS ft b ∧ w = HRS ft b - HRS ft a) ∨ (x = CKS ft b ∧ y = CKS ft a ∧ w = gp - (HRS ft b - HRS ft a))
/-- what the papers below p, and of p the stamps below i, bind -/
def KCV (f : Nat → Int32) (V : Nat → Prop) (gp : Int) (k p i : Nat) : Nat → Nat → Int → Prop := fun x y w => KB x y w ∨ ∃ q j a b, (q < p ∨ (q = p ∧ j < i)) ∧ 1 ≤ j ∧ V q ∧ STQ f q k (j - 1) a ∧ STQ f q k j b ∧ TWO (shf f 104) gp a b x y w
/-- bounds of which some are taken in, none of them too narrow -/
def PHI (K C : Nat → Nat → Int → Prop) (M : Nat → Nat → Int) : Prop := (∀ x y w, C x y w → x < 6 ∧ y < 6 ∧ M x y ≤ w) ∧ (∀ g, SAT K g → ∀ a b, a < 6 → b < 6 → g b - g a ≤ M a b) ∧ (∀ a b, a < 6 → b < 6 → -1000 ≤ M a b ∧ M a b ≤ 120) ∧ (∀ a, a < 6 → M a a ≤ 0)
theorem PHI.mono {K C D : Nat → Nat → Int → Prop} {M : Nat → Nat → Int} (h : PHI K C M) (hs : ∀ x y w, D x y w → C x y w) : PHI K D M := ⟨fun x y w hd => h.1 x y w (hs x y w hd), h.2⟩
theorem PHI.base {f : Nat → Int32} {V : Nat → Prop} {gp : Int} {k : Nat} {K : Nat → Nat → Int → Prop} {M : Nat → Nat → Int} (h : FRP 6 0 M) (hK : BAS K) : PHI K (KCV f V gp k 0 1) M := by
  have e : ∀ a b, a < 6 → b < 6 → M a b = BASW a b := fun a b ha hb => h a b ha hb (by omega)
  refine ⟨fun x y w hc => ?_, fun g hg a b ha hb => ?_, fun a b ha hb => ?_, fun a ha => ?_⟩
  · rcases hc with ⟨h1, h2, h3⟩ | ⟨q, j, a, b, h1, h2, -⟩
    · refine ⟨h1, h2, ?_⟩
      rw [e x y h1 h2, h3]
      exact Int.le_refl _
    · omega
  · rw [e a b ha hb]
    exact hg a b _ (hK a b ha hb)
  · rw [e a b ha hb]
    have h1 := BASW.le (a := a) (b := b)
    omega
  · rw [e a a ha ha]
    unfold BASW
    rw [if_pos rfl]
    exact Int.le_refl _
theorem PHI.paper {f : Nat → Int32} {V : Nat → Prop} {gp : Int} {k p i : Nat} {K : Nat → Nat → Int → Prop} {M : Nat → Nat → Int} (h : PHI K (KCV f V gp k p i) M) (hn : V p → cntS f (nI p) k ≤ i) : PHI K (KCV f V gp k (p + 1) 1) M := by
  refine h.mono fun x y w hc => ?_
  rcases hc with hc | ⟨q, j, a, b, h1, h2, h3, h4, h5, h6⟩
  · exact Or.inl hc
  · refine Or.inr ⟨q, j, a, b, ?_, h2, h3, h4, h5, h6⟩
    by_cases c : q = p
    · have h7 := hn (c ▸ h3)
      have h8 := cntS_lt h5.1 h5.2.1
      have h9 := h5.2.2
      rw [c] at h8 h9
      exact Or.inr ⟨c, by omega⟩
    · exact Or.inl (by omega)
/-- a bound more -/
def MNI (M : Nat → Nat → Int) (x y : Nat) (w : Int) : Nat → Nat → Int := fun a b => if a = x ∧ b = y ∧ w < M a b then w else M a b
theorem MNI.le {M : Nat → Nat → Int} {x y : Nat} {w : Int} {a b : Nat} : MNI M x y w a b ≤ M a b := by
  unfold MNI
  split
  · omega
  · omega
theorem MNI.hit {M : Nat → Nat → Int} {x y : Nat} {w : Int} : MNI M x y w x y ≤ w := by
  unfold MNI
  by_cases c : w < M x y
  · rw [if_pos ⟨rfl, rfl, c⟩]
    exact Int.le_refl _
  · rw [if_neg (fun h => c h.2.2)]
    omega
theorem MNI.or {M : Nat → Nat → Int} {x y : Nat} {w : Int} {a b : Nat} : MNI M x y w a b = M a b ∨ (a = x ∧ b = y ∧ MNI M x y w a b = w) := by
  unfold MNI
  by_cases c : a = x ∧ b = y ∧ w < M a b
  · exact Or.inr ⟨c.1, c.2.1, if_pos c⟩
  · exact Or.inl (if_neg c)
theorem PHI.put {K C : Nat → Nat → Int → Prop} {M N : Nat → Nat → Int} {x y : Nat} {w : Int} (h : PHI K C M) (hk : K x y w) (hw : -1000 ≤ w) (hx : x < 6) (hy : y < 6) (hN : ∀ a b, a < 6 → b < 6 → N a b = MNI M x y w a b) : PHI K (KAD C x y w) N := by
  obtain ⟨h1, h2, h3, h4⟩ := h
  have hle : ∀ a b, a < 6 → b < 6 → N a b ≤ M a b := fun a b ha hb => by
    rw [hN a b ha hb]
    exact MNI.le
  refine ⟨fun x1 y1 w1 hc => ?_, fun g hg a b ha hb => ?_, fun a b ha hb => ?_, fun a ha => ?_⟩
  · rcases hc with hc | ⟨e1, e2, e3⟩
    · obtain ⟨q1, q2, q3⟩ := h1 x1 y1 w1 hc
      have q4 := hle x1 y1 q1 q2
      exact ⟨q1, q2, by omega⟩
    · have q5 := MNI.hit (M := M) (x := x) (y := y) (w := w)
      rw [← hN x y hx hy] at q5
      rw [e1, e2, e3]
      exact ⟨hx, hy, q5⟩
  · have q1 := h2 g hg a b ha hb
    have q2 := hg x y w hk
    rw [hN a b ha hb]
    rcases MNI.or (M := M) (x := x) (y := y) (w := w) (a := a) (b := b) with e | ⟨e1, e2, e⟩
    · rw [e]
      exact q1
    · rw [e, e1, e2]
      exact q2
  · have q1 := h3 a b ha hb
    have q2 := hle a b ha hb
    have q3 := hN a b ha hb
    rcases MNI.or (M := M) (x := x) (y := y) (w := w) (a := a) (b := b) with e | ⟨e1, e2, e⟩ <;> omega
  · have q1 := h4 a ha
    have q2 := hle a a ha ha
    omega
theorem PHI.step {f : Nat → Int32} {V : Nat → Prop} {gp : Int} {k p i a b : Nat} {M N O : Nat → Nat → Int} (h : PHI (KST (shf f 104) V gp k) (KCV f V gp k p i) M) (ha : STQ f p k (i - 1) a) (hb : STQ f p k i b) (hi : 1 ≤ i) (hp : p < 2 ^ 31) (hv : V p) (ca : CKS (shf f 104) a < 6) (cb : CKS (shf f 104) b < 6) (l1 : -1000 ≤ HRS (shf f 104) b - HRS (shf f 104) a) (l2 : -1000 ≤ gp - (HRS (shf f 104) b - HRS (shf f 104) a))
    (hN : ∀ x y, x < 6 → y < 6 → N x y = MNI M (CKS (shf f 104) a) (CKS (shf f 104) b) (HRS (shf f 104) b - HRS (shf f 104) a) x y) (hO : ∀ x y, x < 6 → y < 6 → O x y = MNI N (CKS (shf f 104) b) (CKS (shf f 104) a) (gp - (HRS (shf f 104) b - HRS (shf f 104) a)) x y) : PHI (KST (shf f 104) V gp k) (KCV f V gp k p (i + 1)) O := by
  have hpr := ha.prc hb hi hp hv
  have s1 := h.put (Or.inr ⟨a, b, hb.1, hpr, Or.inl ⟨rfl, rfl, rfl⟩⟩) l1 ca cb hN
  have s2 := s1.put (Or.inr ⟨a, b, hb.1, hpr, Or.inr ⟨rfl, rfl, rfl⟩⟩) l2 cb ca hO
  refine s2.mono fun x y w hc => ?_
  rcases hc with hc | ⟨q, j, a1, b1, h1, h2, h3, h4, h5, h6⟩
  · exact Or.inl (Or.inl (Or.inl hc))
  · by_cases c : q = p ∧ j = i
    · rw [c.1, c.2] at h4 h5
      rw [h4.uniq ha, h5.uniq hb] at h6
      rcases h6 with h6 | h6
      · exact Or.inl (Or.inr h6)
      · exact Or.inr h6
    · exact Or.inl (Or.inl (Or.inr ⟨q, j, a1, b1, by omega, h2, h3, h4, h5, h6⟩))
theorem PHI.all {f : Nat → Int32} {V : Nat → Prop} {gp : Int} {k n : Nat} {M : Nat → Nat → Int} (h : PHI (KST (shf f 104) V gp k) (KCV f V gp k n 1) M) (hV : ∀ q, V q → q < n) (hP : ∀ s, s < k → ∃ p, p < 12 ∧ f (104 + 3 * s) = nI p) : PHI (KST (shf f 104) V gp k) (KST (shf f 104) V gp k) M := by
  refine h.mono fun x y w hc => ?_
  rcases hc with hc | ⟨a, b, h1, h2, h3⟩
  · exact Or.inl hc
  · obtain ⟨p, hp, e⟩ := hP b h1
    have hv := h2.2.2.1
    rw [(shf_st (f := f) (s := b) (c := 0)).trans e, nI_clamp (by omega)] at hv
    obtain ⟨i, hi, ha, hb⟩ := h2.stq e h1
    exact Or.inr ⟨p, i, a, b, Or.inl (hV p hv), hi, hv, ha, hb, h3⟩
/-- how deep the bounds may go behind m clocks -/
def LB : Nat → Int
  | 0 => -1000
  | m + 1 => 6 * LB m
theorem LB.neg : ∀ m, LB m ≤ -1000
  | 0 => Int.le_refl _
  | m + 1 => by
    have h := LB.neg m
    show 6 * LB m ≤ -1000
    omega
theorem LB.lim {m : Nat} (h : m < 6) : -10000000 ≤ LB m := by
  rcases (show m = 0 ∨ m = 1 ∨ m = 2 ∨ m = 3 ∨ m = 4 ∨ m = 5 by omega) with rfl | rfl | rfl | rfl | rfl | rfl <;> decide +kernel
/-- how deep they go on the way from m to m + 1 -/
def LBP (m i j : Nat) (M : Nat → Nat → Int) : Prop := ∀ a b, a < 6 → b < 6 → M a b ≤ 120 ∧ 6 * LB m ≤ M a b ∧ (a = m ∨ b = m → 3 * LB m ≤ M a b) ∧ (a = m ∧ b = m → 2 * LB m ≤ M a b) ∧ (¬ (a < i ∨ (a = i ∧ b < j)) → LB m ≤ M a b)
def FWS (K : Nat → Nat → Int → Prop) (m i j : Nat) (M0 M : Nat → Nat → Int) : Prop := LBP m i j M ∧ ((NOS K ∧ ∃ a, a < 6 ∧ M a a < 0) ∨ (FWI K m M0 ∧ ∀ a b, a < 6 → b < 6 → M a b = if a < i ∨ (a = i ∧ b < j) then PHA m M0 a b else M0 a b))
def FWT (K : Nat → Nat → Int → Prop) (m : Nat) (M : Nat → Nat → Int) : Prop := (∀ a b, a < 6 → b < 6 → LB m ≤ M a b ∧ M a b ≤ 120) ∧ ((NOS K ∧ ∃ a, a < 6 ∧ M a a < 0) ∨ FWI K m M)
theorem FWI.ext {K : Nat → Nat → Int → Prop} {m : Nat} {M N : Nat → Nat → Int} (h : FWI K m M) (hm : m ≤ 6) (e : ∀ a b, a < 6 → b < 6 → N a b = M a b) : FWI K m N := by
  obtain ⟨h1, h2, h3, h4⟩ := h
  refine ⟨fun a ha => (e a a ha ha).trans (h1 a ha), fun s a b hs ha hb => ?_, fun x y w hk => ?_, fun g hg a b ha hb => ?_⟩
  · rw [e a b ha hb, e a s ha (by omega), e s b (by omega) hb]
    exact h2 s a b hs ha hb
  · obtain ⟨hx, hy, hw⟩ := h3 x y w hk
    refine ⟨hx, hy, ?_⟩
    rw [e x y hx hy]
    exact hw
  · rw [e a b ha hb]
    exact h4 g hg a b ha hb
theorem FWT.of {K : Nat → Nat → Int → Prop} {M : Nat → Nat → Int} (h : PHI K K M) : FWT K 0 M := by
  obtain ⟨h1, h2, h3, h4⟩ := h
  refine ⟨fun a b ha hb => h3 a b ha hb, ?_⟩
  by_cases c : ∃ a, a < 6 ∧ M a a < 0
  · refine Or.inl ⟨fun g hg => ?_, c⟩
    obtain ⟨a, ha, hn⟩ := c
    have h5 := h2 g hg a a ha ha
    omega
  · refine Or.inr ⟨fun a ha => ?_, fun s a b hs => absurd hs (Nat.not_lt_zero s), h1, h2⟩
    have h5 := h4 a ha
    by_cases d : M a a < 0
    · exact absurd ⟨a, ha, d⟩ c
    · omega
theorem FWT.to {K : Nat → Nat → Int → Prop} {m : Nat} {M : Nat → Nat → Int} (h : FWT K m M) : FWS K m 0 0 M M := by
  have n0 := LB.neg m
  refine ⟨fun a b ha hb => ?_, ?_⟩
  · have q := h.1 a b ha hb
    exact ⟨q.2, by omega, fun _ => by omega, fun _ => by omega, fun _ => q.1⟩
  · rcases h.2 with h9 | h9
    · exact Or.inl h9
    · refine Or.inr ⟨h9, fun a b ha hb => ?_⟩
      rw [if_neg (by omega)]
theorem FWS.row {K : Nat → Nat → Int → Prop} {m i : Nat} {M0 M : Nat → Nat → Int} (h : FWS K m i 6 M0 M) : FWS K m (i + 1) 0 M0 M := by
  refine ⟨fun a b ha hb => ?_, ?_⟩
  · obtain ⟨q1, q2, q3, q4, q5⟩ := h.1 a b ha hb
    exact ⟨q1, q2, q3, q4, fun q6 => q5 (by omega)⟩
  · rcases h.2 with h9 | ⟨h8, h9⟩
    · exact Or.inl h9
    · refine Or.inr ⟨h8, fun a b ha hb => ?_⟩
      rw [h9 a b ha hb]
      by_cases c : a < i ∨ (a = i ∧ b < 6)
      · rw [if_pos c, if_pos (by omega)]
      · rw [if_neg c, if_neg (by omega)]
theorem FWS.put {K : Nat → Nat → Int → Prop} {m i j : Nat} {M0 M N : Nat → Nat → Int} (h : FWS K m i j M0 M) (hm : m < 6) (hi : i < 6) (hj : j < 6) (hN : ∀ a b, a < 6 → b < 6 → N a b = MNI M i j (M i m + M m j) a b) : FWS K m i (j + 1) M0 N := by
  obtain ⟨h1, h2⟩ := h
  have n0 := LB.neg m
  refine ⟨fun a b ha hb => ?_, ?_⟩
  · obtain ⟨q1, q2, q3, q4, q5⟩ := h1 a b ha hb
    have q6 := hN a b ha hb
    have q7 := MNI.le (M := M) (x := i) (y := j) (w := M i m + M m j) (a := a) (b := b)
    rcases MNI.or (M := M) (x := i) (y := j) (w := M i m + M m j) (a := a) (b := b) with e | ⟨ea, eb, e⟩
    · have e9 : N a b = M a b := q6.trans e
      rw [e9]
      exact ⟨q1, q2, q3, q4, fun q8 => q5 (by omega)⟩
    · have e9 : N a b = M i m + M m j := q6.trans e
      obtain ⟨-, u2, u3, u4, u5⟩ := h1 i m hi hm
      obtain ⟨-, v2, v3, v4, v5⟩ := h1 m j hm hj
      have u6 := u3 (Or.inr rfl)
      have v6 := v3 (Or.inl rfl)
      refine ⟨by omega, by omega, fun q8 => ?_, fun q8 => ?_, fun q8 => absurd (Or.inr ⟨ea, by omega⟩) q8⟩
      · rw [e9]
        by_cases ci : i = m
        · by_cases cj : j = m
          · have u7 := u5 (by omega)
            have v7 := v5 (by omega)
            omega
          · have u7 := u4 ⟨ci, rfl⟩
            have v7 := v5 (by omega)
            omega
        · have cj : j = m := by omega
          have u7 := u5 (by omega)
          have v7 := v4 ⟨rfl, cj⟩
          omega
      · rw [e9]
        have u7 := u5 (by omega)
        have v7 := v5 (by omega)
        omega
  · rcases h2 with ⟨hn, a, ha, hx⟩ | ⟨hf, he⟩
    · refine Or.inl ⟨hn, a, ha, ?_⟩
      have q7 := MNI.le (M := M) (x := i) (y := j) (w := M i m + M m j) (a := a) (b := a)
      rw [hN a a ha ha]
      omega
    · refine Or.inr ⟨hf, fun a b ha hb => ?_⟩
      have e1 : M i m = M0 i m := by
        rw [he i m hi hm]
        split
        · exact PHA.col (hf.1 m hm)
        · rfl
      have e2 : M m j = M0 m j := by
        rw [he m j hm hj]
        split
        · exact PHA.row (hf.1 m hm)
        · rfl
      have e0 := he a b ha hb
      rw [hN a b ha hb, e1, e2]
      by_cases c : a = i ∧ b = j
      · rw [if_neg (by omega)] at e0
        rw [if_pos (show a < i ∨ (a = i ∧ b < j + 1) from Or.inr ⟨c.1, by omega⟩)]
        rw [c.1, c.2] at e0 ⊢
        unfold MNI PHA
        rw [e0]
        by_cases d : M0 i m + M0 m j < M0 i j
        · rw [if_pos ⟨rfl, rfl, d⟩, if_pos d]
        · rw [if_neg (fun h9 => d h9.2.2), if_neg d]
      · have e9 : MNI M i j (M0 i m + M0 m j) a b = M a b := if_neg (fun h9 => c ⟨h9.1, h9.2.1⟩)
        rw [e9, e0]
        by_cases d : a < i ∨ (a = i ∧ b < j)
        · rw [if_pos d, if_pos (by omega)]
        · rw [if_neg d, if_neg (by omega)]
theorem FWS.fin {K : Nat → Nat → Int → Prop} {m : Nat} {M0 M : Nat → Nat → Int} (h : FWS K m 6 0 M0 M) (hm : m < 6) : FWT K (m + 1) M := by
  refine ⟨fun a b ha hb => ?_, ?_⟩
  · obtain ⟨q1, q2, -⟩ := h.1 a b ha hb
    exact ⟨q2, q1⟩
  · rcases h.2 with h9 | ⟨hf, he⟩
    · exact Or.inl h9
    · have he2 : ∀ a b, a < 6 → b < 6 → M a b = PHA m M0 a b := fun a b ha hb => by
        rw [he a b ha hb, if_pos (Or.inl ha)]
      by_cases c : ∃ a, a < 6 ∧ M a a < 0
      · refine Or.inl ⟨fun g hg => ?_, c⟩
        obtain ⟨a, ha, hx⟩ := c
        have h1 := hf.pha hm g hg ha ha
        rw [← he2 a a ha ha] at h1
        omega
      · refine Or.inr ((hf.next hm fun a ha => ?_).ext (by omega) he2)
        rw [← he2 a a ha ha]
        by_cases d : M a a < 0
        · exact absurd ⟨a, ha, d⟩ c
        · omega
theorem FWT.yes {K : Nat → Nat → Int → Prop} {M : Nat → Nat → Int} (h : FWT K 6 M) (hx : ∃ a, a < 6 ∧ M a a < 0) : NOS K := by
  rcases h.2 with ⟨h9, -⟩ | h9
  · exact h9
  · obtain ⟨a, ha, hx⟩ := hx
    have h1 := h9.1 a ha
    omega
theorem FWT.no {K : Nat → Nat → Int → Prop} {M : Nat → Nat → Int} (h : FWT K 6 M) (hx : ∀ a, a < 6 → 0 ≤ M a a) : CLO K M := by
  rcases h.2 with ⟨-, a, ha, h9⟩ | h9
  · have h1 := hx a ha
    omega
  · exact h9.clo
/-- whether a clock would be ahead of itself -/
def CLD (c : Int32) (k : Nat) (M : Nat → Nat → Int) : Prop := (c = 0 ∧ ∀ a, a < k → 0 ≤ M a a) ∨ (c = 1 ∧ ∃ a, a < 6 ∧ M a a < 0)
theorem CLD.zero {M : Nat → Nat → Int} : CLD 0 0 M := Or.inl ⟨rfl, fun a h => absurd h (Nat.not_lt_zero a)⟩
theorem CLD.old {c : Int32} {k : Nat} {M : Nat → Nat → Int} (h : CLD c k M) (hc : ¬ c = 0) : CLD 1 (k + 1) M := by
  rcases h with ⟨h1, -⟩ | h1
  · exact absurd h1 hc
  · exact Or.inr ⟨rfl, h1.2⟩
theorem CLD.lo {k : Nat} {M : Nat → Nat → Int} (hk : k < 6) (hx : M k k < 0) : CLD 1 (k + 1) M := Or.inr ⟨rfl, k, hk, hx⟩
theorem CLD.hi {c : Int32} {k : Nat} {M : Nat → Nat → Int} (h : CLD c k M) (hc : c = 0) (hx : 0 ≤ M k k) : CLD 0 (k + 1) M := by
  rcases h with ⟨-, h1⟩ | ⟨h1, -⟩
  · refine Or.inl ⟨rfl, fun a ha => ?_⟩
    by_cases e : a = k
    · rw [e]
      exact hx
    · exact h1 a (by omega)
  · exact absurd (h1.symm.trans hc) (by decide)
theorem CLD.yes {c : Int32} {K : Nat → Nat → Int → Prop} {M : Nat → Nat → Int} (h : CLD c 6 M) (hf : FWT K 6 M) (hb : BAS K) : (c = 1 ∧ NOS K) ∨ (c = 0 ∧ CLB K M) := by
  rcases h with ⟨h1, h2⟩ | ⟨h1, h2⟩
  · exact Or.inr ⟨h1, hf.no h2, hb⟩
  · exact Or.inl ⟨h1, hf.yes h2⟩
theorem CKS.mk {f : Nat → Int32} {s c : Nat} (e : f (104 + 3 * s + 1) = nI c) (hc : c < 2 ^ 31) : CKS (shf f 104) s = c := by
  unfold CKS
  rw [(shf_st (f := f) (s := s) (c := 1)).trans e, nI_clamp hc]
theorem HRS.mk {f : Nat → Int32} {s : Nat} : HRS (shf f 104) s = (f (104 + 3 * s + 2)).toInt := congrArg Int32.toInt (shf_st (f := f) (s := s) (c := 2))
theorem PHI.stepR {f : Nat → Int32} {V : Nat → Prop} {gp : Int32} {k p i a b ca cb : Nat} {M N O : Nat → Nat → Int} (h : PHI (KST (shf f 104) V gp.toInt k) (KCV f V gp.toInt k p i) M) (ha : STQ f p k (i - 1) a) (hb : STQ f p k i b) (hi : 1 ≤ i) (hp : p < 2 ^ 31) (hv : V p) (ea : f (104 + 3 * a + 1) = nI ca) (eb : f (104 + 3 * b + 1) = nI cb) (hca : ca < 6) (hcb : cb < 6) (a0 : 0 ≤ (f (104 + 3 * a + 2)).toInt) (a9 : (f (104 + 3 * a + 2)).toInt ≤ 999) (b0 : 0 ≤ (f (104 + 3 * b + 2)).toInt) (b9 : (f (104 + 3 * b + 2)).toInt ≤ 999) (hg : GPRm gp)
    (hN : ∀ x y, x < 6 → y < 6 → N x y = MNI M ca cb (f (104 + 3 * b + 2) - f (104 + 3 * a + 2)).toInt x y) (hO : ∀ x y, x < 6 → y < 6 → O x y = MNI N cb ca (gp - (f (104 + 3 * b + 2) - f (104 + 3 * a + 2))).toInt x y) : PHI (KST (shf f 104) V gp.toInt k) (KCV f V gp.toInt k p (i + 1)) O := by
  have g0 := hg.1
  have g9 := hg.2
  have h1 := ti_sb (x := f (104 + 3 * b + 2)) (y := f (104 + 3 * a + 2)) (by omega) (by omega) (by omega) (by omega)
  have h2 := ti_sb (x := gp) (y := f (104 + 3 * b + 2) - f (104 + 3 * a + 2)) (by omega) (by omega) (by omega) (by omega)
  have ka := CKS.mk ea (by omega)
  have kb := CKS.mk eb (by omega)
  have ra := HRS.mk (f := f) (s := a)
  have rb := HRS.mk (f := f) (s := b)
  refine h.step ha hb hi hp hv (by omega) (by omega) (by omega) (by omega) (N := N) (fun x y hx hy => ?_) (fun x y hx hy => ?_)
  · rw [hN x y hx hy, ka, kb, ra, rb, h1]
  · rw [hO x y hx hy, ka, kb, ra, rb, h2, h1]
theorem mat6 {f : Nat → Int32} {a b : Nat} : MAT f a b = (f (6 * a + b)).toInt := congrArg (fun z => (f z).toInt) (by omega)
theorem MNI.of {f : Nat → Int32} {i j : Nat} {v x : Int32} (hi : i < 6) (hj : j < 6) (hx : x = if v < f (6 * i + j) then v else f (6 * i + j)) : ∀ a b, a < 6 → b < 6 → MAT (upd f (6 * i + j) x) a b = MNI (MAT f) i j v.toInt a b := by
  intro a b ha hb
  rw [show 6 * i + j = i * 6 + j by omega, MAT.set hb hj]
  unfold MNI
  have e6 := mat6 (f := f) (a := i) (b := j)
  by_cases c : a = i ∧ b = j
  · rw [if_pos c, c.1, c.2, e6, hx]
    by_cases d : v < f (6 * i + j)
    · rw [if_pos d, if_pos ⟨rfl, rfl, Int32.lt_iff_toInt_lt.mp d⟩]
    · rw [if_neg d, if_neg (fun h9 => d (Int32.lt_iff_toInt_lt.mpr h9.2.2))]
  · rw [if_neg c, if_neg (fun h9 => c ⟨h9.1, h9.2.1⟩)]
theorem tiW {x y : Int32} (h1 : -100000000 ≤ x.toInt) (h2 : x.toInt ≤ 100000000) (h3 : -100000000 ≤ y.toInt) (h4 : y.toInt ≤ 100000000) : (x + y).toInt = x.toInt + y.toInt := by
  rw [Int32.toInt_add, bm32 (by omega) (by omega)]
theorem FWS.sum {K : Nat → Nat → Int → Prop} {m i j : Nat} {M0 : Nat → Nat → Int} {f : Nat → Int32} (h : FWS K m i j M0 (MAT f)) (hm : m < 6) (hi : i < 6) (hj : j < 6) : (f (6 * i + m) + f (6 * m + j)).toInt = MAT f i m + MAT f m j := by
  have n1 := LB.lim hm
  obtain ⟨u1, u2, -⟩ := h.1 i m hi hm
  obtain ⟨v1, v2, -⟩ := h.1 m j hm hj
  rw [mat6] at u1 u2 v1 v2
  rw [mat6, mat6]
  exact tiW (by omega) (by omega) (by omega) (by omega)
theorem FRP.set6 {i j : Nat} {f : Nat → Int32} {w : Int32} (h : FRP i j (MAT f)) (hj : j < 6) (hw : w.toInt = BASW i j) : FRP i (j + 1) (MAT (upd f (6 * i + j) w)) := by
  rw [show 6 * i + j = i * 6 + j by omega]
  exact h.set hj hw
theorem FWT.mb {K : Nat → Nat → Int → Prop} {m : Nat} {f : Nat → Int32} (h : FWT K m (MAT f)) : ∀ i : Nat, i < 36 → (f i).toInt ≤ 120 := by
  intro i hi
  have q := (h.1 (i / 6) (i % 6) (by omega) (by omega)).2
  have e : MAT f (i / 6) (i % 6) = (f i).toInt := congrArg (fun z => (f z).toInt) (by omega)
  omega
/-- the papers that the reference sees -/
def VSE (f : Nat → Int32) (n : Nat) : Nat → Prop := fun p => p < n ∧ SEE (shf f 32) (f 0) (f 1) (f 2) p
section WR
variable {p : Program} {l : Launch} {e : Env} {R : Room} {s : State} {m : MethodId} {args : Array Value} {below : List Frame} {meth : Method} {c : Code} {H : Heap} {locs : List Loc} {cells slots : Nat} {Q : State → Prop}
variable {pc : Nat} {ls : Array Slot} {rest : List Value} {G : GG} {ws : va_W} {A : Nat → Prop} {y0 : MethodName} {b0 : ByteArray} {mL0 : Nat} {rt0 : Option FieldType} {a : Nat} {H0 : Heap}
end WR
theorem nI_z9 {k : Nat} (hk : k < 2 ^ 31) (h : nI k = 0) : k = 0 := (nI_eq (b := 0) hk (by decide)).mp h
section WR
variable {p : Program} {l : Launch} {e : Env} {R : Room} {s : State} {m : MethodId} {args : Array Value} {below : List Frame} {meth : Method} {c : Code} {H : Heap} {locs : List Loc} {cells slots : Nat} {Q : State → Prop}
variable {pc : Nat} {ls : Array Slot} {rest : List Value} {G : GG} {ws : va_W} {A : Nat → Prop} {y0 : MethodName} {b0 : ByteArray} {mL0 : Nat} {rt0 : Option FieldType} {a : Nat} {H0 : Heap}
end WR
theorem mat_s {f : Nat → Int32} {a b : Nat} : 0 ≤ f (6 * a + b) ↔ 0 ≤ MAT f a b := by
  rw [mat6, Int32.le_iff_toInt_le]
  have e0 : (0 : Int32).toInt = 0 := by decide
  rw [e0]
theorem NI.hour {f : Nat → Int32} (h : NI f) {s : Nat} (hs : s < 24) : 0 ≤ (f (104 + 3 * s + 2)).toInt ∧ (f (104 + 3 * s + 2)).toInt ≤ 999 := by
  have h1 := h (104 + 3 * s + 2)
  rw [bnd_st2 (s := s) rfl hs] at h1
  exact h1
theorem NI.pap {f : Nat → Int32} (h : NI f) {s : Nat} (hs : s < 24) : ∃ p, p < 12 ∧ f (104 + 3 * s) = nI p := by
  obtain ⟨k, hk, e⟩ := h.nat (bnd_st0 (s := s) rfl hs) (by decide)
  exact ⟨k, by omega, e⟩
section WR
variable {p : Program} {l : Launch} {e : Env} {R : Room} {s : State} {m : MethodId} {args : Array Value} {below : List Frame} {meth : Method} {c : Code} {H : Heap} {locs : List Loc} {cells slots : Nat} {Q : State → Prop}
variable {pc : Nat} {ls : Array Slot} {rest : List Value} {G : GG} {ws : va_W} {A : Nat → Prop} {y0 : MethodName} {b0 : ByteArray} {mL0 : Nat} {rt0 : Option FieldType} {a : Nat} {H0 : Heap}
end WR
theorem SPQ.mk1 {K : Nat → Nat → Int → Prop} {jc : Nat} {x2 : Int32} {f : Nat → Int32} (hw : Wi (nI jc) 0 5) (hj : jc < 6) (h : CLB K (MAT f)) (hx : ¬ x2 = 0) : SPQ K (nI jc) x2 (1000 + f jc) := by
  refine Or.inr (Or.inr ⟨hw, f, h, Or.inr ⟨hx, ?_⟩⟩)
  rw [nI_clamp (n := jc) (by omega), Int32.add_comm, Nat.zero_mul, Nat.zero_add]
theorem SPQ.mk0 {K : Nat → Nat → Int → Prop} {jc : Nat} {x2 : Int32} {f : Nat → Int32} (hw : Wi (nI jc) 0 5) (hj : jc < 6) (h : CLB K (MAT f)) (hx : x2 = 0) : SPQ K (nI jc) x2 (1000 + -(f (6 * jc))) := by
  refine Or.inr (Or.inr ⟨hw, f, h, Or.inl ⟨hx, ?_⟩⟩)
  rw [nI_clamp (n := jc) (by omega), Int32.add_comm, show jc * 6 + 0 = 6 * jc by omega]
theorem GPRm.of {f : Nat → Int32} {g : Int32} (e : f 3 = g) (h : GPR g) : GPRm (f 3) := by
  rw [e]
  exact h
theorem SVL.of {y fs : Nat → Int32} {n : Nat} (h : NI y) (e : EQT y 104 72 fs) (hn : n ≤ 24) : SVL fs n := by
  intro s hs
  have e0 := e (s * 3 + 0) (by omega)
  have e1 := e (s * 3 + 1) (by omega)
  have e2 := e (s * 3 + 2) (by omega)
  rw [show 104 + (s * 3 + 0) = 104 + 3 * s by omega] at e0
  rw [show 104 + (s * 3 + 1) = 104 + 3 * s + 1 by omega] at e1
  rw [show 104 + (s * 3 + 2) = 104 + 3 * s + 2 by omega] at e2
  obtain ⟨p, hp, ep⟩ := NI.pap h (s := s) (by omega)
  obtain ⟨c, hc, ec⟩ := h.nat (bnd_st1 (s := s) rfl (by omega)) (by decide)
  have hh := NI.hour h (s := s) (by omega)
  rw [e2] at hh
  exact ⟨⟨p, hp, e0.symm.trans ep⟩, ⟨c, by omega, e1.symm.trans ec⟩, hh⟩
theorem PRC.cg {ft gt : Nat → Int32} {V U : Nat → Prop} {n a b : Nat} (h : ∀ i, i < 72 → gt i = ft i) (hn : n ≤ 24) (hv : ∀ p, p < 12 → (U p ↔ V p)) (hp : SVL ft n) (hb : b < n) : PRC ft V a b ↔ PRC gt U a b := by
  obtain ⟨p, hp12, ep⟩ := (hp b hb).1
  have eb := h (b * 3 + 0) (by omega)
  have q : (V (ft (b * 3 + 0)).toNatClampNeg ↔ U (gt (b * 3 + 0)).toNatClampNeg) := by
    rw [eb, ep, nI_clamp (by omega)]
    exact (hv p hp12).symm
  constructor
  · intro ⟨h1, h2, h3, h4⟩
    refine ⟨h1, ?_, q.mp h3, fun s hs1 hs2 hs3 => h4 s hs1 hs2 ?_⟩
    · rw [h (a * 3 + 0) (by omega), eb]
      exact h2
    · rw [h (s * 3 + 0) (by omega), eb] at hs3
      exact hs3
  · intro ⟨h1, h2, h3, h4⟩
    refine ⟨h1, ?_, q.mpr h3, fun s hs1 hs2 hs3 => h4 s hs1 hs2 ?_⟩
    · rw [h (a * 3 + 0) (by omega), eb] at h2
      exact h2
    · rw [h (s * 3 + 0) (by omega), eb]
      exact hs3
theorem KST.cg {ft gt : Nat → Int32} {V U : Nat → Prop} {gp : Int} {n : Nat} (h : ∀ i, i < 72 → gt i = ft i) (hn : n ≤ 24) (hv : ∀ p, p < 12 → (U p ↔ V p)) (hp : SVL ft n) : KST ft V gp n = KST gt U gp n := by
  have ec : ∀ s, s < n → CKS gt s = CKS ft s := fun s hs => congrArg Int32.toNatClampNeg (h (s * 3 + 1) (by omega))
  have eh : ∀ s, s < n → HRS gt s = HRS ft s := fun s hs => congrArg Int32.toInt (h (s * 3 + 2) (by omega))
  funext x y w
  apply propext
  constructor
  · intro h9
    rcases h9 with h9 | ⟨a, b, h1, h2, h3⟩
    · exact Or.inl h9
    · have ha : a < n := Nat.lt_trans h2.1 h1
      refine Or.inr ⟨a, b, h1, (PRC.cg h hn hv hp h1).mp h2, ?_⟩
      rw [ec a ha, ec b h1, eh a ha, eh b h1]
      exact h3
  · intro h9
    rcases h9 with h9 | ⟨a, b, h1, h2, h3⟩
    · exact Or.inl h9
    · have ha : a < n := Nat.lt_trans h2.1 h1
      refine Or.inr ⟨a, b, h1, (PRC.cg h hn hv hp h1).mpr h2, ?_⟩
      rw [ec a ha, ec b h1, eh a ha, eh b h1] at h3
      exact h3
/-- what binds the clocks is the same on both sides -/
theorem KQE {y fs fp : Nat → Int32} {td vd vl gp : Int32} {kp ks : Nat} (es : EQT y 104 72 fs) (ep : EQT y 32 72 fp) (e0 : y 0 = td) (e1 : y 1 = vd) (e2 : y 2 = vl) (e3 : y 3 = gp) (hkp : kp ≤ 12) (hks : ks ≤ 24) (hN : NI y) : KST fs (VPP (IVW fp td vd vl kp)) gp.toInt ks = KST (shf y 104) (VSE y kp) (y 3).toInt ks := by
  rw [e3]
  refine KST.cg (fun i hi => es i hi) hks (fun p hp => ?_) (SVL.of hN es hks)
  have q : SEE (shf y 32) (y 0) (y 1) (y 2) p ↔ SEE fp td vd vl p := by
    rw [e0, e1, e2]
    rw [SEE.cg (f := shf y 32) (g := fp) (n := 72) (fun i hi => ep i hi) (by omega)]
  by_cases c : p < kp
  · exact ⟨fun h9 => (IVW.hb hkp c).mpr (q.mp h9.2), fun h9 => ⟨c, q.mpr ((IVW.hb hkp c).mp h9)⟩⟩
  · exact ⟨fun h9 => absurd h9.1 c, fun h9 => absurd h9 (HB.no hkp c hp)⟩
section WR
variable {p : Program} {l : Launch} {e : Env} {R : Room} {s : State} {m : MethodId} {args : Array Value} {below : List Frame} {meth : Method} {c : Code} {H : Heap} {locs : List Loc} {cells slots : Nat} {Q : State → Prop}
variable {pc : Nat} {ls : Array Slot} {rest : List Value} {G : GG} {ws : va_W} {A : Nat → Prop} {y0 : MethodName} {b0 : ByteArray} {mL0 : Nat} {rt0 : Option FieldType} {a : Nat} {H0 : Heap}
end WR
theorem STQ.lst {f : Nat → Int32} {p k i s : Nat} (h : STQ f p k i s) (hi : i + 1 = cntS f (nI p) k) : LST (shf f 104) k p s := by
  obtain ⟨h1, h2, h3⟩ := h
  refine ⟨h1, (shf_st (f := f) (s := s) (c := 0)).trans h2, fun s2 a b e => ?_⟩
  have e2 : f (104 + 3 * s2) = nI p := (shf_st (f := f) (s := s2) (c := 0)).symm.trans e
  have q1 := cntS_lt a h2
  have q2 := cntS_lt b e2
  omega
theorem cntS_no {f : Nat → Int32} {p k : Nat} (h : cntS f (nI p) k = 0) : ∀ s, s < k → ¬ shf f 104 (s * 3 + 0) = nI p := fun s hs e => by
  have e2 : f (104 + 3 * s) = nI p := (shf_st (f := f) (s := s) (c := 0)).symm.trans e
  have q2 := cntS_lt hs e2
  omega
theorem TR0.mk {f fm : Nat → Int32} {s c : Nat} (e : f (104 + 3 * s + 1) = nI c) (hc : c < 2 ^ 31) : f (104 + 3 * s + 2) - fm c = TR0 (shf f 104) fm s := by
  unfold TR0
  rw [CKS.mk e hc, shf_st, Int32.sub_eq_add_neg, Nat.zero_mul, Nat.zero_add]
theorem TR1.mk {f fm : Nat → Int32} {s c : Nat} (e : f (104 + 3 * s + 1) = nI c) (hc : c < 2 ^ 31) : f (104 + 3 * s + 2) - -(fm (6 * c)) = TR1 (shf f 104) fm s := by
  unfold TR1
  rw [CKS.mk e hc, shf_st, Int32.sub_eq_add_neg, Int32.neg_neg, show c * 6 + 0 = 6 * c by omega]
section WR
variable {p : Program} {l : Launch} {e : Env} {R : Room} {s : State} {m : MethodId} {args : Array Value} {below : List Frame} {meth : Method} {c : Code} {H : Heap} {locs : List Loc} {cells slots : Nat} {Q : State → Prop}
variable {pc : Nat} {ls : Array Slot} {rest : List Value} {G : GG} {ws : va_W} {A : Nat → Prop} {y0 : MethodName} {b0 : ByteArray} {mL0 : Nat} {rt0 : Option FieldType} {a : Nat} {H0 : Heap}
end WR
theorem SNQ.gom {K : Nat → Nat → Int → Prop} {ft : Nat → Int32} {V : Nat → Prop} {k p : Nat} {fm : Nat → Int32} {x2 r a b : Int32} (hc : CLB K (MAT fm)) (h : ∃ s9, LST ft k p s9 ∧ V p ∧ a = TR0 ft fm s9 ∧ b = TR1 ft fm s9) (hr : (x2 = 0 ∧ r = 1000 + a) ∨ (¬ x2 = 0 ∧ r = 1000 + b)) : HRQ K ft V k p (LST ft k p) x2 r := by
  obtain ⟨s, h3, h2, h4, h5⟩ := h
  rw [h4, h5, Int32.add_comm, Int32.add_comm (1000 : Int32) (TR1 ft fm s)] at hr
  exact Or.inr ⟨fm, s, hc, h2, h3, h3.1, h3.2.1, hr⟩
theorem HRQ.nom {K : Nat → Nat → Int → Prop} {ft : Nat → Int32} {V : Nat → Prop} {k p : Nat} {P : Nat → Prop} {x2 : Int32} (h : ¬ V p ∨ ∀ s9, s9 < k → ¬ ft (s9 * 3 + 0) = nI p) : HRQ K ft V k p P x2 (-3) := Or.inl ⟨Or.inr h, rfl⟩
/-- both sides see the same papers -/
theorem VQE {y fp : Nat → Int32} {td vd vl : Int32} {kp : Nat} (ep : EQT y 32 72 fp) (e0 : y 0 = td) (e1 : y 1 = vd) (e2 : y 2 = vl) (hkp : kp ≤ 12) : ∀ p, p < 12 → (VSE y kp p ↔ VPP (IVW fp td vd vl kp) p) := fun p hp => by
  have q : SEE (shf y 32) (y 0) (y 1) (y 2) p ↔ SEE fp td vd vl p := by
    rw [e0, e1, e2]
    rw [SEE.cg (f := shf y 32) (g := fp) (n := 72) (fun i hi => ep i hi) (by omega)]
  by_cases c : p < kp
  · exact ⟨fun h9 => (IVW.hb hkp c).mpr (q.mp h9.2), fun h9 => ⟨c, q.mpr ((IVW.hb hkp c).mp h9)⟩⟩
  · exact ⟨fun h9 => absurd h9.1 c, fun h9 => absurd h9 (HB.no hkp c hp)⟩
section WR
variable {p : Program} {l : Launch} {e : Env} {R : Room} {s : State} {m : MethodId} {args : Array Value} {below : List Frame} {meth : Method} {c : Code} {H : Heap} {locs : List Loc} {cells slots : Nat} {Q : State → Prop}
variable {pc : Nat} {ls : Array Slot} {rest : List Value} {G : GG} {ws : va_W} {A : Nat → Prop} {y0 : MethodName} {b0 : ByteArray} {mL0 : Nat} {rt0 : Option FieldType} {a : Nat} {H0 : Heap}
end WR
theorem STQ.fst {f : Nat → Int32} {p k s : Nat} (h : STQ f p k 0 s) : FST (shf f 104) k p s := by
  obtain ⟨h1, h2, h3⟩ := h
  refine ⟨h1, (shf_st (f := f) (s := s) (c := 0)).trans h2, fun s2 a e => ?_⟩
  have e2 : f (104 + 3 * s2) = nI p := (shf_st (f := f) (s := s2) (c := 0)).symm.trans e
  have q1 := cntS_lt a e2
  omega
theorem LST.cnt {f : Nat → Int32} {p k s : Nat} (h : LST (shf f 104) k p s) : 1 ≤ cntS f (nI p) k := by
  have e2 : f (104 + 3 * s) = nI p := (shf_st (f := f) (s := s) (c := 0)).symm.trans h.2.1
  have q1 := cntS_lt h.1 e2
  omega
theorem shf_pa {f : Nat → Int32} {p c : Nat} : shf f 32 (p * 6 + c) = f (32 + 6 * p + c) := congrArg f (by omega)
theorem shf_pe {f : Nat → Int32} {e c : Nat} : shf f 12 (e * 2 + c) = f (12 + 2 * e + c) := congrArg f (by omega)
theorem HB.iff {x : Int32} {k : Nat} (hk : k < 31) : HB x (nI k) ↔ (x >>> (nI k &&& 31)) &&& 1 = 1 := ⟨fun h => h.2.2, fun h => HB.mk hk h⟩
theorem HAQ.ra {K : Nat → Nat → Int → Prop} {ft fm : Nat → Int32} {V : Nat → Prop} {by9 to9 z x2 r a b : Int32} {k p e : Nat} (hc : CLB K (MAT fm)) (h : by9 = nI e ∧ ∃ s9, FST ft k p s9 ∧ V p ∧ a = TR0 ft fm s9 ∧ b = TR1 ft fm s9) (hr : (x2 = 0 ∧ r = 1000 + a) ∨ (¬ x2 = 0 ∧ r = 1000 + b)) : HAQ K ft V by9 to9 z k p e x2 r := by
  obtain ⟨hb, s, h3, h2, h4, h5⟩ := h
  rw [h4, h5, Int32.add_comm, Int32.add_comm (1000 : Int32) (TR1 ft fm s)] at hr
  refine Or.inl ⟨hb, Or.inr ⟨fm, s, hc, h2, h3, h3.1, h3.2.1, ?_⟩⟩
  rcases hr with hr | ⟨hx, hr⟩
  · exact Or.inl hr
  · exact Or.inr ⟨hx, by rw [Int32.add_zero]; exact hr⟩
theorem HAQ.rb {K : Nat → Nat → Int → Prop} {ft fm : Nat → Int32} {V : Nat → Prop} {by9 to9 z x2 r a b : Int32} {k p e : Nat} (he : e < 31) (hc : CLB K (MAT fm)) (h : ¬ by9 = nI e ∧ (to9 >>> (nI e &&& 31)) &&& 1 = 1 ∧ ∃ s9, LST ft k p s9 ∧ V p ∧ a = TR0 ft fm s9 ∧ b = TR1 ft fm s9 + z) (hr : (x2 = 0 ∧ r = 1000 + a) ∨ (¬ x2 = 0 ∧ r = 1000 + b)) : HAQ K ft V by9 to9 z k p e x2 r := by
  obtain ⟨hb, ht, s, h3, h2, h4, h5⟩ := h
  rw [h4, h5, Int32.add_comm, Int32.add_comm (1000 : Int32) (TR1 ft fm s + z)] at hr
  exact Or.inr (Or.inl ⟨hb, HB.mk he ht, Or.inr ⟨fm, s, hc, h2, h3, h3.1, h3.2.1, hr⟩⟩)
theorem HAQ.rn {K : Nat → Nat → Int → Prop} {ft : Nat → Int32} {V : Nat → Prop} {by9 to9 z x2 : Int32} {k p e : Nat} (he : e < 31) (h : (¬ V p ∨ ∀ s, s < k → ¬ ft (s * 3 + 0) = nI p) ∨ (¬ by9 = nI e ∧ ¬ (to9 >>> (nI e &&& 31)) &&& 1 = 1)) : HAQ K ft V by9 to9 z k p e x2 (-3) := by
  rcases h with h | ⟨h1, h2⟩
  · exact HAQ.nn (Or.inr h)
  · exact Or.inr (Or.inr ⟨h1, fun h9 => h2 h9.2.2, rfl⟩)
theorem HAQ.re {K : Nat → Nat → Int → Prop} {ft f : Nat → Int32} {V : Nat → Prop} {k p e : Nat} {x2 r : Int32} (h : HAQ K ft V (f (32 + 6 * p + 0)) (f (32 + 6 * p + 1)) (f (12 + 2 * e + 1)) k p e x2 r) : HAQ K ft V (shf f 32 (p * 6 + 0)) (shf f 32 (p * 6 + 1)) (shf f 12 (e * 2 + 1)) k p e x2 r := by
  rw [shf_pa, shf_pa, shf_pe]
  exact h
theorem BFV.rd {f : Nat → Int32} {a b : Nat} (h1 : 0 ≤ (f (104 + 3 * a + 2)).toInt ∧ (f (104 + 3 * a + 2)).toInt ≤ 999) (h2 : 0 ≤ (f (104 + 3 * b + 2)).toInt ∧ (f (104 + 3 * b + 2)).toInt ≤ 999) : (f (104 + 3 * b + 2) - f (104 + 3 * a + 2)).toInt = HRS (shf f 104) b - HRS (shf f 104) a := by
  have e1 : HRS (shf f 104) a = (f (104 + 3 * a + 2)).toInt := congrArg Int32.toInt (shf_st (f := f) (s := a) (c := 2))
  have e2 : HRS (shf f 104) b = (f (104 + 3 * b + 2)).toInt := congrArg Int32.toInt (shf_st (f := f) (s := b) (c := 2))
  rw [ti_sb (by omega) (by omega) (by omega) (by omega), e1, e2]
theorem BFV.rleast {K : Nat → Nat → Int → Prop} {f fm : Nat → Int32} {a b ca cb : Nat} (hc : CLB K (MAT fm)) (h1 : 0 ≤ (f (104 + 3 * a + 2)).toInt ∧ (f (104 + 3 * a + 2)).toInt ≤ 999) (h2 : 0 ≤ (f (104 + 3 * b + 2)).toInt ∧ (f (104 + 3 * b + 2)).toInt ≤ 999) (ea : f (104 + 3 * a + 1) = nI ca) (eb : f (104 + 3 * b + 1) = nI cb) (la : ca < 6) (lb : cb < 6) : (f (104 + 3 * b + 2) - f (104 + 3 * a + 2)) ≤ fm (6 * ca + cb) ↔ ¬ MAT fm (CKS (shf f 104) a) (CKS (shf f 104) b) < HRS (shf f 104) b - HRS (shf f 104) a := by
  have e4 := BFV.rd h1 h2
  have e3 : (fm (6 * ca + cb)).toInt = MAT fm ca cb := congrArg (fun z9 => (fm z9).toInt) (show 6 * ca + cb = ca * 6 + cb by omega)
  rw [Int32.le_iff_toInt_le, e4, e3, CKS.mk ea (by omega), CKS.mk eb (by omega)]
  omega
theorem BFV.rmost {K : Nat → Nat → Int → Prop} {f fm : Nat → Int32} {a b ca cb : Nat} (hc : CLB K (MAT fm)) (h1 : 0 ≤ (f (104 + 3 * a + 2)).toInt ∧ (f (104 + 3 * a + 2)).toInt ≤ 999) (h2 : 0 ≤ (f (104 + 3 * b + 2)).toInt ∧ (f (104 + 3 * b + 2)).toInt ≤ 999) (ea : f (104 + 3 * a + 1) = nI ca) (eb : f (104 + 3 * b + 1) = nI cb) (la : ca < 6) (lb : cb < 6) : (f (104 + 3 * b + 2) - f (104 + 3 * a + 2)) ≤ -(fm (6 * cb + ca)) ↔ ¬ -(MAT fm (CKS (shf f 104) b) (CKS (shf f 104) a)) < HRS (shf f 104) b - HRS (shf f 104) a := by
  have e4 := BFV.rd h1 h2
  have e3 : (fm (6 * cb + ca)).toInt = MAT fm cb ca := congrArg (fun z9 => (fm z9).toInt) (show 6 * cb + ca = cb * 6 + ca by omega)
  have h3 := hc.lim cb ca lb la
  rw [Int32.le_iff_toInt_le, e4, ti_ng (by omega) (by omega), e3, CKS.mk ea (by omega), CKS.mk eb (by omega)]
  omega
section WR
variable {p : Program} {l : Launch} {e : Env} {R : Room} {s : State} {m : MethodId} {args : Array Value} {below : List Frame} {meth : Method} {c : Code} {H : Heap} {locs : List Loc} {cells slots : Nat} {Q : State → Prop}
variable {pc : Nat} {ls : Array Slot} {rest : List Value} {G : GG} {ws : va_W} {A : Nat → Prop} {y0 : MethodName} {b0 : ByteArray} {mL0 : Nat} {rt0 : Option FieldType} {a : Nat} {H0 : Heap}
end WR
theorem AGF.all {fs : Nat → Int32} {s : Nat} {f t : Int32} (hft : f ≤ t) : (∀ y, f ≤ y → y ≤ t → AGF fs y s) ↔ ((fs (s * 8 + 5) = 1 ∧ fs (s * 8 + 3) < f) ∨ (¬ fs (s * 8 + 5) = 1 ∧ t ≤ fs (s * 8 + 3))) := by
  constructor
  · intro h
    by_cases c : fs (s * 8 + 5) = 1
    · rcases h f (Int32.le_refl f) hft with h1 | h1
      · exact Or.inl h1
      · exact absurd c h1.1
    · rcases h t hft (Int32.le_refl t) with h1 | h1
      · exact absurd h1.1 c
      · exact Or.inr h1
  · intro h y h1 h2
    rcases h with ⟨a, b⟩ | ⟨a, b⟩
    · exact Or.inl ⟨a, i_lt_le b h1⟩
    · exact Or.inr ⟨a, i_le_trans h2 b⟩
/-- the hours gone over so far -/
def ALI (fs : Nat → Int32) (s : Nat) (f t x al : Int32) : Prop := f ≤ x ∧ ((al = 1 ∧ ∀ y, f ≤ y → y < x → AGF fs y s) ∨ (al = 0 ∧ ¬ ∀ y, f ≤ y → y ≤ t → AGF fs y s))
theorem ALI.zero {fs : Nat → Int32} {s : Nat} {f t : Int32} : ALI fs s f t f 1 := ⟨Int32.le_refl f, Or.inl ⟨rfl, fun y h1 h2 => absurd h1 (Int32.not_le.mpr h2)⟩⟩
theorem inc_lt {x t : Int32} (h : x ≤ t) (ht : t.toInt ≤ 100000) : x < x + 1 ∧ ∀ y : Int32, y < x + 1 → y ≤ x := by
  rw [Int32.le_iff_toInt_le] at h
  have e1 : (1 : Int32).toInt = 1 := by decide
  have e := ti_add (a := x) (b := 1) (by rw [e1]; have := ti_lo x; omega) (by rw [e1]; omega)
  rw [e1] at e
  refine ⟨?_, fun y hy => ?_⟩
  · rw [Int32.lt_iff_toInt_lt, e]
    omega
  · rw [Int32.lt_iff_toInt_lt, e] at hy
    rw [Int32.le_iff_toInt_le]
    omega
theorem ALI.next {fs : Nat → Int32} {s : Nat} {f t x al : Int32} (h : ALI fs s f t x al) (hx : ¬ t < x) (ht : t.toInt ≤ 100000) (ha : ¬ al = 0) (hg : AGF fs x s) : ALI fs s f t (x + 1) 1 := by
  obtain ⟨h0, h⟩ := h
  have hxt := Int32.not_lt.mp hx
  obtain ⟨q1, q2⟩ := inc_lt hxt ht
  refine ⟨i_le_trans h0 (i_lt_le2 q1), Or.inl ⟨rfl, fun y h1 h2 => ?_⟩⟩
  rcases h with ⟨-, h⟩ | ⟨h, -⟩
  · by_cases c : y = x
    · rw [c]; exact hg
    · refine h y h1 ?_
      have h3 := q2 y h2
      rw [Int32.le_iff_toInt_le] at h3
      rw [Int32.lt_iff_toInt_lt]
      have h4 : y.toInt ≠ x.toInt := fun e => c (Int32.toInt_inj.mp e)
      omega
  · exact absurd h ha
theorem ALI.stop {fs : Nat → Int32} {s : Nat} {f t x al : Int32} (h : ALI fs s f t x al) (hx : ¬ t < x) (ht : t.toInt ≤ 100000) (hg : ¬ AGF fs x s) : ALI fs s f t (x + 1) 0 := by
  obtain ⟨h0, -⟩ := h
  have hxt := Int32.not_lt.mp hx
  obtain ⟨q1, q2⟩ := inc_lt hxt ht
  exact ⟨i_le_trans h0 (i_lt_le2 q1), Or.inr ⟨rfl, fun h9 => hg (h9 x h0 hxt)⟩⟩
theorem ALI.yes {fs : Nat → Int32} {s : Nat} {f t x al : Int32} (h : ALI fs s f t x al) (hx : t < x) (ha : ¬ al = 0) : ∀ y, f ≤ y → y ≤ t → AGF fs y s := by
  rcases h.2 with ⟨-, h⟩ | ⟨h, -⟩
  · exact fun y h1 h2 => h y h1 (by
      rw [Int32.lt_iff_toInt_lt] at *
      rw [Int32.le_iff_toInt_le] at h2
      omega)
  · exact absurd h ha
theorem ALI.no {fs : Nat → Int32} {s : Nat} {f t x al : Int32} (h : ALI fs s f t x al) (ha : al = 0) : ¬ ∀ y, f ≤ y → y ≤ t → AGF fs y s := by
  rcases h.2 with ⟨h, -⟩ | ⟨-, h⟩
  · exact absurd (h.symm.trans ha) (by decide)
  · exact h
theorem HIQ.rb {K : Nat → Nat → Int → Prop} {ft fm : Nat → Int32} {V : Nat → Prop} {by9 to9 z a b : Int32} {k p e : Nat} (he : e < 31) (hc : CLB K (MAT fm)) (h : (by9 = nI e ∧ ∃ s9, FST ft k p s9 ∧ V p ∧ a = TR0 ft fm s9 ∧ b = TR1 ft fm s9) ∨ (¬ by9 = nI e ∧ (to9 >>> (nI e &&& 31)) &&& 1 = 1 ∧ ∃ s9, LST ft k p s9 ∧ V p ∧ a = TR0 ft fm s9 ∧ b = TR1 ft fm s9 + z)) : INQ K ft V by9 to9 z k p e a b := by
  rcases h with ⟨h1, s, h2, h3, h4, h5⟩ | ⟨h1, ht, s, h2, h3, h4, h5⟩
  · exact Or.inl ⟨fm, s, hc, h3, h1, h2, h4, h5⟩
  · exact Or.inr ⟨fm, s, hc, h3, h1, HB.mk he ht, h2, h4, h5⟩
theorem NIQ.rn {K : Nat → Nat → Int → Prop} {ft : Nat → Int32} {V : Nat → Prop} {by9 to9 : Int32} {k p e : Nat} (h : (¬ V p ∨ ∀ s, s < k → ¬ ft (s * 3 + 0) = nI p) ∨ (¬ by9 = nI e ∧ ¬ (to9 >>> (nI e &&& 31)) &&& 1 = 1)) : NIQ K ft V by9 to9 k p e := by
  rcases h with (h | h) | ⟨h1, h2⟩
  · exact Or.inr (Or.inl h)
  · exact Or.inr (Or.inr (Or.inl h))
  · exact Or.inr (Or.inr (Or.inr ⟨h1, fun h9 => h2 h9.2.2⟩))
theorem HIQ.re {K : Nat → Nat → Int → Prop} {ft f : Nat → Int32} {V : Nat → Prop} {k p e : Nat} {a b : Int32} (h : HIQ K ft V (f (32 + 6 * p + 0)) (f (32 + 6 * p + 1)) (f (12 + 2 * e + 1)) k p e a b) : HIQ K ft V (shf f 32 (p * 6 + 0)) (shf f 32 (p * 6 + 1)) (shf f 12 (e * 2 + 1)) k p e a b := by
  rw [shf_pa, shf_pa, shf_pe]
  exact h
theorem shf_sa {f : Nat → Int32} {s c : Nat} : shf f 1424 (s * 8 + c) = f (1424 + 8 * s + c) := congrArg f (by omega)
theorem IMB.n0 {P : Nat → Prop} {n : Nat} {b : Int32} (h : b = IMB P n) (p : ¬ P n) : b ||| 0 = IMB P (n + 1) := by
  rw [Int32.or_zero]
  exact IMB.n h p
theorem IMS.yes {K : Nat → Nat → Int → Prop} {ft : Nat → Int32} {V : Nat → Prop} {fp fe fs : Nat → Int32} {k s : Nat} {f t : Int32} (hq : QSF K ft V fp fe fs k s f t) (hft : f ≤ t) (ha : ∀ y, f ≤ y → y ≤ t → AGF fs y s) : IMS fs (QSF K ft V fp fe fs k) s := ⟨f, t, hq, (AGF.all hft).mp ha⟩
theorem IMS.not {K : Nat → Nat → Int → Prop} {ft : Nat → Int32} {V : Nat → Prop} {fp fe fs : Nat → Int32} {k s : Nat} {f t : Int32} (hS : SVL ft k) (hq : QSF K ft V fp fe fs k s f t) (hft : f ≤ t) (ha : ¬ ∀ y, f ≤ y → y ≤ t → AGF fs y s) : ¬ IMS fs (QSF K ft V fp fe fs k) s := IMS.no hS hq (fun h9 => ha ((AGF.all hft).mpr h9))
theorem SVL.ofm {y : Nat → Int32} {n : Nat} (h : NI y) (hn : n ≤ 24) : SVL (shf y 104) n := SVL.of h (fun i hi => rfl) hn
theorem SPI.m {y fs : Nat → Int32} {n kp : Nat} (h : SPI fs n kp) (e : EQT y 1424 128 fs) (hn : n ≤ 16) : SPI (shf y 1424) n kp := fun s hs => by
  have q : shf y 1424 (s * 8 + 2) = fs (s * 8 + 2) := e (s * 8 + 2) (by omega)
  rw [q]
  exact h s hs
theorem SPO.m {y fs : Nat → Int32} {n kp : Nat} (h : SPO fs n kp) (e : EQT y 1424 128 fs) (hn : n ≤ 16) : SPO (shf y 1424) n kp := fun s hs => by
  have q1 : shf y 1424 (s * 8 + 1) = fs (s * 8 + 1) := e (s * 8 + 1) (by omega)
  have q3 : shf y 1424 (s * 8 + 3) = fs (s * 8 + 3) := e (s * 8 + 3) (by omega)
  have q4 : shf y 1424 (s * 8 + 4) = fs (s * 8 + 4) := e (s * 8 + 4) (by omega)
  rw [q1, q3, q4]
  exact h s hs
theorem CSQ.iff {fs gs fp gp : Nat → Int32} {td vd vl : Int32} {s n kp : Nat} (hs : ∀ i, i < 128 → gs i = fs i) (hp : ∀ i, i < 72 → gp i = fp i) (hn : n ≤ 16) (hkp : kp ≤ 12) (hSP : SPI fs n kp) (h : s < n) : CSQ fs fp td vd vl s ↔ CSQ gs gp td vd vl s := by
  obtain ⟨j, hj, e⟩ := Hs_nat (by omega) (hSP s h)
  unfold CSQ
  rw [hs (s * 8 + 7) (by omega), hs (s * 8 + 6) (by omega), hs (s * 8 + 2) (by omega), e, nI_clamp (by omega), SEE.cg (f := gp) (g := fp) (n := 72) hp (by omega)]
theorem QSF.cg {K : Nat → Nat → Int → Prop} {ft gt fp gp fe ge fs gs : Nat → Int32} {V U : Nat → Prop} {k n kp ke s : Nat} {f t : Int32} (h : ∀ i, i < 72 → gt i = ft i) (hk : k ≤ 24) (hv : ∀ p, p < 12 → (U p ↔ V p)) (hp : ∀ i, i < 72 → gp i = fp i) (he : ∀ i, i < 20 → ge i = fe i) (hs : ∀ i, i < 128 → gs i = fs i) (hn : n ≤ 16) (hkp : kp ≤ 12) (hke : ke ≤ 10) (hSP : SPI fs n kp) (hSO : SPO fs n ke) (hsn : s < n) (q : QSF K gt U gp ge gs k s f t) : QSF K ft V fp fe fs k s f t := by
  obtain ⟨p, hp1, e1⟩ := Hs_nat (by omega) (hSP s hsn)
  obtain ⟨e, he1, e2⟩ := Hs_nat (by omega) (hSO s hsn).1
  have q1 : gs (s * 8 + 2) = nI p := (hs _ (by omega)).trans e1
  have q2 : gs (s * 8 + 1) = nI e := (hs _ (by omega)).trans e2
  unfold QSF at q ⊢
  rw [q1, q2, nI_clamp (by omega), nI_clamp (by omega), hp (p * 6 + 0) (by omega), hp (p * 6 + 1) (by omega), he (e * 2 + 1) (by omega)] at q
  rw [e1, e2, nI_clamp (by omega), nI_clamp (by omega)]
  exact HIQ.cg h hk (hv p (by omega)) q
theorem IMB.law {K L : Nat → Nat → Int → Prop} {ft gt fp gp fe ge fs gs : Nat → Int32} {V U : Nat → Prop} {td vd vl : Int32} {k n kp ke : Nat} (e : K = L) (h : ∀ i, i < 72 → gt i = ft i) (hk : k ≤ 24) (hv : ∀ p, p < 12 → (U p ↔ V p)) (hp : ∀ i, i < 72 → gp i = fp i) (he : ∀ i, i < 20 → ge i = fe i) (hs : ∀ i, i < 128 → gs i = fs i) (hn : n ≤ 16) (hkp : kp ≤ 12) (hke : ke ≤ 10) (hSP : SPI fs n kp) (hSO : SPO fs n ke) : IMB (fun s9 => CSQ fs fp td vd vl s9 ∧ IMS fs (QSF K ft V fp fe fs k) s9) n = IMB (fun s9 => CSQ gs gp td vd vl s9 ∧ IMS gs (QSF L gt U gp ge gs k) s9) n := by
  subst e
  have hSPg : SPI gs n kp := fun s hs9 => by rw [hs _ (by omega)]; exact hSP s hs9
  have hSOg : SPO gs n ke := fun s hs9 => by rw [hs _ (by omega), hs _ (by omega), hs _ (by omega)]; exact hSO s hs9
  refine IMB.cg n (fun s hs9 => ?_)
  refine and_congr (CSQ.iff hs hp hn hkp hSP hs9) ?_
  have q3 := hs (s * 8 + 3) (by omega)
  have q5 := hs (s * 8 + 5) (by omega)
  constructor
  · intro ⟨f, t, q, c⟩
    refine ⟨f, t, QSF.cg (fun i hi => (h i hi).symm) hk (fun p hp9 => (hv p hp9).symm) (fun i hi => (hp i hi).symm) (fun i hi => (he i hi).symm) (fun i hi => (hs i hi).symm) hn hkp hke hSPg hSOg hs9 q, ?_⟩
    rw [q3, q5]
    exact c
  · intro ⟨f, t, q, c⟩
    refine ⟨f, t, QSF.cg h hk hv hp he hs hn hkp hke hSP hSO hs9 q, ?_⟩
    rw [q3, q5] at c
    exact c
section WR
variable {p : Program} {l : Launch} {e : Env} {R : Room} {s : State} {m : MethodId} {args : Array Value} {below : List Frame} {meth : Method} {c : Code} {H : Heap} {locs : List Loc} {cells slots : Nat} {Q : State → Prop}
variable {pc : Nat} {ls : Array Slot} {rest : List Value} {G : GG} {ws : va_W} {A : Nat → Prop} {y0 : MethodName} {b0 : ByteArray} {mL0 : Nat} {rt0 : Option FieldType} {a : Nat} {H0 : Heap}
end WR
theorem NI.slow {f : Nat → Int32} (h : NI f) {e : Nat} (he : e < 10) : 0 ≤ (shf f 12 (e * 2 + 1)).toInt ∧ (shf f 12 (e * 2 + 1)).toInt ≤ 48 := by
  have h1 := h (12 + (e * 2 + 1))
  rw [bnd_per (by omega) (by omega)] at h1
  exact h1
section WR
variable {p : Program} {l : Launch} {e : Env} {R : Room} {s : State} {m : MethodId} {args : Array Value} {below : List Frame} {meth : Method} {c : Code} {H : Heap} {locs : List Loc} {cells slots : Nat} {Q : State → Prop}
variable {pc : Nat} {ls : Array Slot} {rest : List Value} {G : GG} {ws : va_W} {A : Nat → Prop} {y0 : MethodName} {b0 : ByteArray} {mL0 : Nat} {rt0 : Option FieldType} {a : Nat} {H0 : Heap}
end WR
theorem WGS.nn {P : Nat → Prop} {fs : Nat → Int32} {h : Int32} {ks kp : Nat} (hO : SPO fs ks kp) (h16 : ks ≤ 16) : ∀ n, n ≤ ks → ∃ w, w ≤ 9 * n ∧ WGS P fs h n = nI w
  | 0, _ => ⟨0, Nat.le_refl _, rfl⟩
  | n + 1, hn => by
    obtain ⟨w, h1, h2⟩ := WGS.nn (P := P) (fs := fs) (h := h) hO h16 n (by omega)
    obtain ⟨v, v1, v2⟩ := (hO n (by omega)).2.2
    by_cases c : P n ∧ AGF fs h n
    · exact ⟨w + v, by omega, (WGS.y rfl c).symm.trans (by rw [h2, v2, nI_add])⟩
    · exact ⟨w, by omega, (WGS.n rfl c).symm.trans h2⟩
theorem WGS.pos {P : Nat → Prop} {fs : Nat → Int32} {h : Int32} {ks kp : Nat} (hO : SPO fs ks kp) (h16 : ks ≤ 16) : ¬ WGS P fs h ks < 0 := by
  obtain ⟨w, h1, h2⟩ := WGS.nn (P := P) (h := h) hO h16 ks (Nat.le_refl _)
  rw [h2]
  exact nI_pos (by omega)
/-- the hours gone over so far, the best of them -/
def QLI (W : Int32 → Int32) (f t x be le : Int32) : Prop := f ≤ x ∧ x.toInt ≤ t.toInt + 1 ∧ ((le = (-1) ∧ x = f ∧ be = f) ∨ (f < x ∧ le = W be ∧ f ≤ be ∧ be < x ∧ (∀ y, f ≤ y → y < x → W be ≤ W y) ∧ ∀ y, f ≤ y → y < be → W be < W y))
theorem QLI.zero {W : Int32 → Int32} {f t : Int32} (h : f ≤ t) : QLI W f t f f (-1) := ⟨Int32.le_refl f, by rw [Int32.le_iff_toInt_le] at h; omega, Or.inl ⟨rfl, rfl, rfl⟩⟩
theorem inc_i {x t : Int32} (hx : ¬ t < x) (ht : t.toInt ≤ 1167) : (x + 1).toInt = x.toInt + 1 := by
  have h1 := Int32.not_lt.mp hx
  rw [Int32.le_iff_toInt_le] at h1
  have e1 : (1 : Int32).toInt = 1 := by decide
  have e := ti_add (a := x) (b := 1) (by rw [e1]; have := ti_lo x; omega) (by rw [e1]; omega)
  rw [e1] at e
  exact e
theorem QLI.new {W : Int32 → Int32} {f t x be le w : Int32} (h : QLI W f t x be le) (hx : ¬ t < x) (ht : t.toInt ≤ 1167) (hw : w = W x) (hW : ∀ y, ¬ W y < 0) (hc : le < 0 ∨ w < le) : QLI W f t (x + 1) x w := by
  obtain ⟨h0, h1, h2⟩ := h
  have e := inc_i hx ht
  have hx2 := Int32.not_lt.mp hx
  rw [Int32.le_iff_toInt_le] at hx2 h0
  refine ⟨by rw [Int32.le_iff_toInt_le]; omega, by omega, Or.inr ⟨by rw [Int32.lt_iff_toInt_lt]; omega, hw, by rw [Int32.le_iff_toInt_le]; omega, by rw [Int32.lt_iff_toInt_lt]; omega, fun y h3 h4 => ?_, fun y h3 h4 => ?_⟩⟩
  · by_cases c : y = x
    · rw [c]; exact Int32.le_refl _
    · have c2 : y.toInt ≠ x.toInt := fun e9 => c (Int32.toInt_inj.mp e9)
      rw [Int32.lt_iff_toInt_lt] at h4
      rcases h2 with ⟨a1, a2, a3⟩ | ⟨a1, a2, a3, a4, a5, a6⟩
      · rw [Int32.le_iff_toInt_le, ← a2] at h3
        omega
      · have q := a5 y h3 (by rw [Int32.lt_iff_toInt_lt]; omega)
        rw [← a2] at q
        rcases hc with hc | hc
        · exact absurd (a2 ▸ hc) (hW be)
        · rw [← hw]
          exact i_lt_le2 (i_lt_le hc q)
  · rcases h2 with ⟨a1, a2, a3⟩ | ⟨a1, a2, a3, a4, a5, a6⟩
    · rw [Int32.le_iff_toInt_le, ← a2] at h3
      rw [Int32.lt_iff_toInt_lt] at h4
      omega
    · have q := a5 y h3 h4
      rw [← a2] at q
      rcases hc with hc | hc
      · exact absurd (a2 ▸ hc) (hW be)
      · rw [← hw]
        exact i_lt_le hc q
theorem QLI.old {W : Int32 → Int32} {f t x be le w : Int32} (h : QLI W f t x be le) (hx : ¬ t < x) (ht : t.toInt ≤ 1167) (hw : w = W x) (h3 : ¬ le < 0) (hc : le ≤ w) : QLI W f t (x + 1) be le := by
  obtain ⟨h0, h1, h2⟩ := h
  have e := inc_i hx ht
  have hx2 := Int32.not_lt.mp hx
  rw [Int32.le_iff_toInt_le] at hx2 h0
  rcases h2 with ⟨a1, a2, a3⟩ | ⟨a1, a2, a3, a4, a5, a6⟩
  · rw [a1] at h3
    exact absurd (by decide) h3
  · rw [Int32.lt_iff_toInt_lt] at a1
    refine ⟨by rw [Int32.le_iff_toInt_le]; omega, by omega, Or.inr ⟨by rw [Int32.lt_iff_toInt_lt]; omega, a2, a3, by rw [Int32.lt_iff_toInt_lt] at *; omega, fun y h5 h6 => ?_, a6⟩⟩
    by_cases c : y = x
    · rw [c, ← hw, ← a2]; exact hc
    · have c2 : y.toInt ≠ x.toInt := fun e9 => c (Int32.toInt_inj.mp e9)
      rw [Int32.lt_iff_toInt_lt] at h6
      exact a5 y h5 (by rw [Int32.lt_iff_toInt_lt]; omega)
theorem QLI.bst {W : Int32 → Int32} {f t x be le : Int32} (h : QLI W f t x be le) (hx : t < x) (hft : f ≤ t) : BST W f t be le := by
  obtain ⟨h0, h1, h2⟩ := h
  rw [Int32.lt_iff_toInt_lt] at hx
  rw [Int32.le_iff_toInt_le] at hft
  rcases h2 with ⟨a1, a2, a3⟩ | ⟨a1, a2, a3, a4, a5, a6⟩
  · rw [a2] at hx
    omega
  · rw [Int32.lt_iff_toInt_lt] at a4
    exact ⟨a2, a3, by rw [Int32.le_iff_toInt_le]; omega, fun y h3 h4 => a5 y h3 (by rw [Int32.le_iff_toInt_le] at h4; rw [Int32.lt_iff_toInt_lt]; omega), a6⟩
theorem PWS.iff {fs gs fp gp : Nat → Int32} {td vd vl : Int32} {s n kp e p : Nat} (hs : ∀ i, i < 128 → gs i = fs i) (hp : ∀ i, i < 72 → gp i = fp i) (hn : n ≤ 16) (hkp : kp ≤ 12) (hSP : SPI fs n kp) (h : s < n) : PWS fs fp td vd vl e p s ↔ PWS gs gp td vd vl e p s := by
  unfold PWS
  rw [hs (s * 8 + 1) (by omega), hs (s * 8 + 2) (by omega)]
  exact and_congr_right (fun _ => and_congr_right (fun _ => CSQ.iff hs hp hn hkp hSP h))
theorem AGF.eq {fs gs : Nat → Int32} {h : Int32} {s n : Nat} (hs : ∀ i, i < 128 → gs i = fs i) (hn : n ≤ 16) (hs9 : s < n) : AGF gs h s = AGF fs h s := by
  unfold AGF
  rw [hs (s * 8 + 5) (by omega), hs (s * 8 + 3) (by omega)]
theorem QRQ.uq {K L : Nat → Nat → Int → Prop} {ft gt fp gp fe ge fs gs : Nat → Int32} {V U : Nat → Prop} {td vd vl x1 x2 x3 r t : Int32} {k n kp ke : Nat} (h1 : QRQ K ft V fp fe fs td vd vl k kp ke n x1 x2 x3 r) (h2 : QRQ L gt U gp ge gs td vd vl k kp ke n x1 x2 x3 t) (e : K = L) (h : ∀ i, i < 72 → gt i = ft i) (hk : k ≤ 24) (hv : ∀ p, p < 12 → (U p ↔ V p)) (hS : SVL ft k) (hp : ∀ i, i < 72 → gp i = fp i) (he : ∀ i, i < 20 → ge i = fe i) (hs : ∀ i, i < 128 → gs i = fs i) (hn : n ≤ 16) (hkp : kp ≤ 12) (hke : ke ≤ 10) (hSP : SPI fs n kp) : r = t := by
  subst e
  have ok : ∀ a b : Nat, a < ke → b < kp → x1 = nI a → x2 = nI b → Wi x3 0 1 → Hs x1 ke ∧ Hs x2 kp ∧ Wi x3 0 1 := fun a b q1 q2 q3 q4 q5 => ⟨by rw [q3]; exact Hs.of q1 (by omega), by rw [q4]; exact Hs.of q2 (by omega), q5⟩
  rcases h1 with ⟨a, b⟩ | ⟨a, b, a1, b1, ea, eb, w, z⟩
  · rcases h2 with ⟨c, d⟩ | ⟨c, d, c1, d1, ec, ed, w2, z2⟩
    · exact b.trans d.symm
    · exact absurd (ok c d c1 d1 ec ed w2) a
  · rcases h2 with ⟨c, d⟩ | ⟨c, d, c1, d1, ec, ed, w2, z2⟩
    · exact absurd (ok a b a1 b1 ea eb w) c
    · have e1 : c = a := (nI_eq (by omega) (by omega)).mp (ec.symm.trans ea)
      have e2 : d = b := (nI_eq (by omega) (by omega)).mp (ed.symm.trans eb)
      rw [e1, e2] at z2
      rcases z with ⟨z, y⟩ | ⟨z, f, tt, bb, ll, q1, q2, q3⟩
      · rcases z2 with ⟨z2, y2⟩ | ⟨z2, -⟩
        · exact y.trans y2.symm
        · exact absurd ((hv b (by omega)).mp z2) z
      · rcases z2 with ⟨z2, y2⟩ | ⟨z2, f2, t2, b2, l2, p1, p2, p3⟩
        · exact absurd ((hv b (by omega)).mpr z) z2
        · rw [hp (b * 6 + 0) (by omega), hp (b * 6 + 1) (by omega), he (a * 2 + 1) (by omega)] at p1
          obtain ⟨f1, f3⟩ := HIQ.uniq hS q1 (HIQ.cg h hk (hv b (by omega)) p1)
          have ew : (fun h9 => WGS (PWS gs gp td vd vl a b) gs h9 n) = (fun h9 => WGS (PWS fs fp td vd vl a b) fs h9 n) := by
            funext h9
            refine WGS.cg n (fun s hs9 => ⟨?_, hs (s * 8 + 4) (by omega)⟩)
            rw [AGF.eq hs hn hs9]
            exact and_congr (PWS.iff hs hp hn hkp hSP hs9).symm Iff.rfl
          rw [ew, ← f1, ← f3] at p2
          obtain ⟨g1, g2⟩ := BST.uniq q2 p2
          rcases q3 with ⟨m, y⟩ | ⟨m, y⟩
          · rcases p3 with ⟨m2, y2⟩ | ⟨m2, y2⟩
            · rw [y, y2, g2]
            · exact absurd m m2
          · rcases p3 with ⟨m2, y2⟩ | ⟨m2, y2⟩
            · exact absurd m2 m
            · rw [y, y2, g1]
theorem PSL.of {y fe : Nat → Int32} (h : NI y) (e : EQT y 12 20 fe) : PSL fe := fun p hp => by
  have q := NI.slow h hp
  have q2 : shf y 12 (p * 2 + 1) = fe (p * 2 + 1) := e (p * 2 + 1) (by omega)
  rw [q2] at q
  exact q
section WR
variable {p : Program} {l : Launch} {e : Env} {R : Room} {s : State} {m : MethodId} {args : Array Value} {below : List Frame} {meth : Method} {c : Code} {H : Heap} {locs : List Loc} {cells slots : Nat} {Q : State → Prop}
variable {pc : Nat} {ls : Array Slot} {rest : List Value} {G : GG} {ws : va_W} {A : Nat → Prop} {y0 : MethodName} {b0 : ByteArray} {mL0 : Nat} {rt0 : Option FieldType} {a : Nat} {H0 : Heap}
end WR
/-- a paper is seen, these being left out -/
def SEO (f : Nat → Int32) (td vd vl : Int32) (w p : Nat) : Prop := SEE f td vd vl p ∧ w.testBit p = false
def VSO (f : Nat → Int32) (n w : Nat) : Nat → Prop := fun p => p < n ∧ SEO (shf f 32) (f 0) (f 1) (f 2) w p
theorem VSO.eq {f : Nat → Int32} {n w : Nat} : VSO f n w = fun p => VSE f n p ∧ w.testBit p = false := by
  funext p
  exact propext ⟨fun h => ⟨⟨h.1, h.2.1⟩, h.2.2⟩, fun h => ⟨h.1.1, h.1.2, h.2⟩⟩
theorem sh16 : ∀ k : Fin 16, ((nI k.1 &&& 31).toBitVec.smod 32).toNat = k.1 := by decide +kernel
theorem tb_and {w k : Nat} (hw : w < 4096) (hk : k < 16) : (nI w >>> (nI k &&& 31)) &&& 1 = nI (if w.testBit k = true then 1 else 0) := by
  have h6 : w / 2 ^ k ≤ w := Nat.div_le_self _ _
  have h7 : (nI w >>> (nI k &&& 31)) &&& 1 = nI (w / 2 ^ k % 2) := by
    rw [pk_shrN (by omega) _ k (sh16 ⟨k, hk⟩)]
    exact pk_andN (by omega) 1 (by decide)
  rw [h7, Nat.testBit_eq_decide_div_mod_eq]
  have hm : w / 2 ^ k % 2 < 2 := Nat.mod_lt _ (by decide)
  by_cases c : w / 2 ^ k % 2 = 1
  · rw [if_pos (decide_eq_true c), c]
  · rw [if_neg (fun h => c (of_decide_eq_true h)), show w / 2 ^ k % 2 = 0 by omega]
theorem tb_has {w k : Nat} (hw : w < 4096) (hk : k < 16) : (nI w >>> (nI k &&& 31)) &&& 1 = 1 ↔ w.testBit k = true := by
  rw [tb_and hw hk]
  by_cases c : w.testBit k = true
  · rw [if_pos c]; exact ⟨fun _ => c, fun _ => rfl⟩
  · rw [if_neg c]; exact ⟨fun h => absurd h (by decide), fun h => absurd h c⟩
theorem tb_no {w k : Nat} (hw : w < 4096) (hk : k < 16) (h : ¬ (nI w >>> (nI k &&& 31)) &&& 1 = 1) : w.testBit k = false := by
  cases c : w.testBit k with
  | false => rfl
  | true => exact absurd ((tb_has hw hk).mpr c) h
theorem tb_ye {w k : Nat} (hw : w < 4096) (hk : k < 16) (h : (nI w >>> (nI k &&& 31)) &&& 1 = 1) : ¬ w.testBit k = false := by rw [(tb_has hw hk).mp h]; decide
section WR
variable {p : Program} {l : Launch} {e : Env} {R : Room} {s : State} {m : MethodId} {args : Array Value} {below : List Frame} {meth : Method} {c : Code} {H : Heap} {locs : List Loc} {cells slots : Nat} {Q : State → Prop}
variable {pc : Nat} {ls : Array Slot} {rest : List Value} {G : GG} {ws : va_W} {A : Nat → Prop} {y0 : MethodName} {b0 : ByteArray} {mL0 : Nat} {rt0 : Option FieldType} {a : Nat} {H0 : Heap}
end WR
/-- how many bits, of a set of papers -/
theorem bs_pc {w : Nat} (hw : w < 4096) : ∀ n, n ≤ 16 → BSUM (nI w) n = nI (PCN w n)
  | 0, _ => rfl
  | n + 1, hn => by
    show BSUM (nI w) n + ((nI w >>> (nI n &&& 31)) &&& 1) = nI (PCN w n + (if w.testBit n = true then 1 else 0))
    rw [bs_pc hw n (by omega), tb_and hw (by omega), nI_add]
theorem pc_16 {w : Nat} (hw : w < 4096) : PCN w 16 = PCN w 12 := by
  have h : ∀ i, 12 ≤ i → ¬ w.testBit i = true := fun i hi => by rw [tb_hi hw hi]; decide
  show PCN w 12 + (if w.testBit 12 = true then 1 else 0) + (if w.testBit 13 = true then 1 else 0) + (if w.testBit 14 = true then 1 else 0) + (if w.testBit 15 = true then 1 else 0) = PCN w 12
  rw [if_neg (h 12 (by omega)), if_neg (h 13 (by omega)), if_neg (h 14 (by omega)), if_neg (h 15 (by omega))]
  rfl
theorem bs_12 {w : Nat} (hw : w < 4096) : BSUM (nI w) 16 = nI (PCN w 12) := by rw [bs_pc hw 16 (Nat.le_refl _), pc_16 hw]
/-- papers that are seen and have stamps -/
def CDB (f : Nat → Int32) (n k : Nat) : Nat → Prop := fun p => VSE f n p ∧ 0 < cntS f (nI p) k
/-- whether a set is still asked of, its first k papers looked at -/
def MAY (B : Nat → Prop) (w fe k n : Nat) (m : Int32) : Prop := (m = 1 ∧ PCN w 12 < fe ∧ ∀ q, q < k → w.testBit q = true → B q) ∨ (m = 0 ∧ ¬ (PCN w 12 < fe ∧ ∀ q, q < n → w.testBit q = true → B q))
theorem MAY.ge {B : Nat → Prop} {w fe n : Nat} (h : fe ≤ PCN w 12) : MAY B w fe 0 n 0 := Or.inr ⟨rfl, fun h9 => by have := h9.1; omega⟩
theorem MAY.lt {B : Nat → Prop} {w fe n : Nat} (h : PCN w 12 < fe) : MAY B w fe 0 n 1 := Or.inl ⟨rfl, h, fun q hq => absurd hq (Nat.not_lt_zero q)⟩
theorem MAY.get {B : Nat → Prop} {w fe k n : Nat} {m : Int32} (h : MAY B w fe k n m) (hm : ¬ m = 0) : PCN w 12 < fe ∧ ∀ q, q < k → w.testBit q = true → B q := by
  rcases h with ⟨-, h⟩ | ⟨h1, -⟩
  · exact h
  · exact absurd h1 hm
theorem MAY.no {B : Nat → Prop} {w fe k n : Nat} {m : Int32} (h : MAY B w fe k n m) (hm : m = 0) : ¬ (PCN w 12 < fe ∧ ∀ q, q < n → w.testBit q = true → B q) := by
  rcases h with ⟨h1, -⟩ | ⟨-, h⟩
  · exact absurd (h1.symm.trans hm) (by decide)
  · exact h
theorem MAY.y {B : Nat → Prop} {w fe k n : Nat} {m : Int32} (h : MAY B w fe k n m) (hm : ¬ m = 0) (hq : w.testBit k = true → B k) : MAY B w fe (k + 1) n 1 := by
  have h1 := h.get hm
  refine Or.inl ⟨rfl, h1.1, fun q h2 h3 => ?_⟩
  by_cases e : q = k
  · subst e; exact hq h3
  · exact h1.2 q (by omega) h3
theorem MAY.n {B : Nat → Prop} {w fe k n : Nat} (hk : k < n) (h1 : w.testBit k = true) (h2 : ¬ B k) : MAY B w fe (k + 1) n 0 := Or.inr ⟨rfl, fun h9 => h2 (h9.2 k hk h1)⟩
theorem MAY.b {B : Nat → Prop} {w fe k n : Nat} {m : Int32} (h : MAY B w fe k n m) : m = 0 ∨ m = 1 := by
  rcases h with ⟨h1, -⟩ | ⟨h1, -⟩
  · exact Or.inr h1
  · exact Or.inl h1
/-- a set of these papers -/
def BSU (B : Nat → Prop) (W : Nat) : Prop := ∀ p, p < 12 → W.testBit p = true → B p
/-- the best set so far -/
def DBI (Gd B : Nat → Prop) (k be fe : Nat) : Prop := (fe = 13 ∧ be = 0 ∧ ∀ W, W < k → BSU B W → ¬ Gd W) ∨ (be < k ∧ BSU B be ∧ Gd be ∧ PCN be 12 = fe ∧ ∀ U, U < k → BSU B U → Gd U → fe < PCN U 12 ∨ (fe = PCN U 12 ∧ be ≤ U))
theorem DBI.zero {Gd B : Nat → Prop} : DBI Gd B 0 0 13 := Or.inl ⟨rfl, rfl, fun W h => absurd h (Nat.not_lt_zero W)⟩
theorem DBI.le {Gd B : Nat → Prop} {k be fe : Nat} (h : DBI Gd B k be fe) : fe ≤ 13 := by
  rcases h with ⟨h, -⟩ | ⟨-, -, -, h, -⟩
  · omega
  · have := PCN.top (w := be) 12
    omega
theorem DBI.skip {Gd B : Nat → Prop} {k be fe : Nat} (h : DBI Gd B k be fe) (hn : ¬ (PCN k 12 < fe ∧ BSU B k ∧ Gd k)) : DBI Gd B (k + 1) be fe := by
  rcases h with ⟨h1, h2, h3⟩ | ⟨h1, h2, h3, h4, h5⟩
  · refine Or.inl ⟨h1, h2, fun W hW hb hg => ?_⟩
    by_cases e : W = k
    · subst e
      have := PCN.top (w := W) 12
      exact hn ⟨by omega, hb, hg⟩
    · exact h3 W (by omega) hb hg
  · refine Or.inr ⟨by omega, h2, h3, h4, fun U hU hb hg => ?_⟩
    by_cases e : U = k
    · subst e
      rcases Nat.lt_or_ge (PCN U 12) fe with c | c
      · exact absurd ⟨c, hb, hg⟩ hn
      · rcases Nat.lt_or_ge fe (PCN U 12) with d | d
        · exact Or.inl d
        · exact Or.inr ⟨by omega, by omega⟩
    · exact h5 U (by omega) hb hg
theorem DBI.take {Gd B : Nat → Prop} {k be fe : Nat} (h : DBI Gd B k be fe) (hl : PCN k 12 < fe) (hb : BSU B k) (hg : Gd k) : DBI Gd B (k + 1) k (PCN k 12) := by
  refine Or.inr ⟨Nat.lt_succ_self k, hb, hg, rfl, fun U hU hb2 hg2 => ?_⟩
  by_cases e : U = k
  · subst e; exact Or.inr ⟨rfl, Nat.le_refl _⟩
  · rcases h with ⟨-, -, h3⟩ | ⟨-, -, -, -, h5⟩
    · exact absurd hg2 (h3 U (by omega) hb2)
    · rcases h5 U (by omega) hb2 hg2 with c | c
      · exact Or.inl (by omega)
      · exact Or.inl (by omega)
theorem BSU.of {B : Nat → Prop} {n k : Nat} (hk : k < 2 ^ n) (h : ∀ q, q < n → k.testBit q = true → B q) : BSU B k := fun p _ hb => by
  rcases Nat.lt_or_ge p n with c | c
  · exact h p c hb
  · rw [Nat.testBit_lt_two_pow (Nat.lt_of_lt_of_le hk (Nat.pow_le_pow_right (by decide) c))] at hb
    exact absurd hb (by decide)
theorem BSU.lt {B : Nat → Prop} {n k : Nat} (hk : k < 4096) (hB : ∀ p, B p → p < n) (h : BSU B k) : k < 2 ^ n := Nat.lt_pow_two_of_testBit k (fun i hi => by
  cases c : k.testBit i with
  | false => rfl
  | true =>
    rcases Nat.lt_or_ge i 12 with d | d
    · have := hB i (h i d c)
      omega
    · rw [tb_hi hk d] at c
      exact absurd c (by decide))
theorem KWO.o {f : Nat → Int32} {n w k : Nat} {gp : Int} : KST (shf f 104) (VSO f n w) gp k = KWO (shf f 104) (VSE f n) gp k w := by unfold KWO; rw [VSO.eq]
theorem CDB.mst {f : Nat → Int32} {n k p : Nat} (h : MST (shf f 104) k p) (hv : VSE f n p) : CDB f n k p := by
  obtain ⟨s1, s2, h1, h2, h3, -⟩ := h
  have e : f (104 + 3 * s1) = nI p := (shf_st (f := f) (s := s1) (c := 0)).symm.trans h3
  have h5 := cntS_lt (f := f) (p := nI p) (s := s1) (n := k) (by omega) e
  exact ⟨hv, by omega⟩
theorem DBI.fin {f : Nat → Int32} {n k be fe : Nat} {gp : Int} (hS : SVL (shf f 104) k) (hn : n ≤ 12) (h : DBI (GDW (shf f 104) (VSE f n) gp k) (CDB f n k) (2 ^ n) be fe) : DBQ (shf f 104) (VSE f n) (CDB f n k) gp k be := by
  have h12 : 2 ^ n ≤ 2 ^ 12 := Nat.pow_le_pow_right (by decide) hn
  have e12 : (2 : Nat) ^ 12 = 4096 := by decide
  have hB : ∀ p, CDB f n k p → p < n := fun p hp => hp.1.1
  have hs : SOF (CDB f n k) 12 < 4096 := SOF.lt 12
  have hb : BSU (CDB f n k) (SOF (CDB f n k) 12) := fun p _ h9 => ((SOF.bit 12 p).mp h9).2
  have hg := GDW.all (ft := shf f 104) (V := VSE f n) (B := CDB f n k) (gp := gp) hS (fun p _ h8 h9 => CDB.mst h8 h9)
  rcases h with ⟨-, -, h3⟩ | ⟨h1, h2, h3, h4, h5⟩
  · exact absurd hg (h3 _ (BSU.lt hs hB hb) hb)
  · refine ⟨⟨by omega, h2⟩, h3, fun U hu hub hg2 => ?_⟩
    rw [h4]
    exact h5 U (BSU.lt hu hB hub) hub hg2
/-- both sides' doubt is one -/
theorem DBQ.law {y fs fp : Nat → Int32} {td vd vl gp : Int32} {kp ks W U : Nat} (es : EQT y 104 72 fs) (ep : EQT y 32 72 fp) (e0 : y 0 = td) (e1 : y 1 = vd) (e2 : y 2 = vl) (e3 : y 3 = gp) (hkp : kp ≤ 12) (hks : ks ≤ 24) (hN : NI y) (h1 : DBQ fs (VPP (IVW fp td vd vl kp)) (BDB fs ks (IVW fp td vd vl kp)) gp.toInt ks W) (h2 : DBQ (shf y 104) (VSE y kp) (CDB y kp ks) (y 3).toInt ks U) : W = U := by
  have hS := SVL.of hN es hks
  have hV := VQE ep e0 e1 e2 hkp
  have hG : ∀ X, GDW fs (VPP (IVW fp td vd vl kp)) gp.toInt ks X = GDW (shf y 104) (VSE y kp) (y 3).toInt ks X := fun X => by
    unfold GDW KWO
    rw [e3, KST.cg (ft := fs) (gt := shf y 104) (V := fun p => VPP (IVW fp td vd vl kp) p ∧ X.testBit p = false) (U := fun p => VSE y kp p ∧ X.testBit p = false) (fun i hi => es i hi) hks (fun p hp => ⟨fun h => ⟨(hV p hp).mp h.1, h.2⟩, fun h => ⟨(hV p hp).mpr h.1, h.2⟩⟩) hS]
  have h3 : DBQ fs (VPP (IVW fp td vd vl kp)) (CDB y kp ks) gp.toInt ks U := by
    obtain ⟨a1, a2, a3⟩ := h2
    exact ⟨a1, by rw [hG]; exact a2, fun X hx hb hg => a3 X hx hb (by rw [← hG]; exact hg)⟩
  refine DBQ.uq hS (fun p hp hb => ?_) (fun p _ h8 h9 => ⟨h9, h8⟩) (fun p hp hc => (hV p hp).mp hc.1) h1 h3
  obtain ⟨s1, s2, b1, b2, b3, b4⟩ := hb.2
  exact CDB.mst ⟨s1, s2, b1, b2, (es (s1 * 3 + 0) (by omega)).trans b3, (es (s2 * 3 + 0) (by omega)).trans b4⟩ ((hV p hp).mpr hb.1)
section WR
variable {p : Program} {l : Launch} {e : Env} {R : Room} {s : State} {m : MethodId} {args : Array Value} {below : List Frame} {meth : Method} {c : Code} {H : Heap} {locs : List Loc} {cells slots : Nat} {Q : State → Prop}
variable {pc : Nat} {ls : Array Slot} {rest : List Value} {G : GG} {ws : va_W} {A : Nat → Prop} {y0 : MethodName} {b0 : ByteArray} {mL0 : Nat} {rt0 : Option FieldType} {a : Nat} {H0 : Heap}
theorem gX12_clash_0 : (decode cX12_clash 0 = .ok (.iload_n 1, 1)) ∧ (decode cX12_clash 1 = .ok (.iconst 0, 1)) ∧ (decode cX12_clash 2 = .ok (.iconst 1, 1)) ∧ (decode cX12_clash 3 = .ok (.invokestatic 84, 3)) ∧ (decode cX12_clash 6 = .ok (.ifCond .ne 5, 3)) ∧ (decode cX12_clash 9 = .ok (.iconst (-1), 1)) ∧ (decode cX12_clash 10 = .ok (.ireturn, 1)) ∧ (decode cX12_clash 11 = .ok (.iload_n 1, 1)) ∧ (decode cX12_clash 12 = .ok (.iconst 1, 1)) ∧ (decode cX12_clash 13 = .ok (.if_icmp .ne 10, 3)) := by decide +kernel
theorem gX12_clash_1 : (decode cX12_clash 16 = .ok (.aload_n 0, 1)) ∧ (decode cX12_clash 17 = .ok (.invokevirtual 152, 3)) ∧ (decode cX12_clash 20 = .ok (.goto 15, 3)) ∧ (decode cX12_clash 23 = .ok (.aload_n 0, 1)) ∧ (decode cX12_clash 24 = .ok (.invokevirtual 148, 3)) ∧ (decode cX12_clash 27 = .ok (.ifCond .eq 7, 3)) ∧ (decode cX12_clash 30 = .ok (.iconst 1, 1)) ∧ (decode cX12_clash 31 = .ok (.goto 4, 3)) ∧ (decode cX12_clash 34 = .ok (.iconst 0, 1)) ∧ (decode cX12_clash 35 = .ok (.ireturn, 1)) := by decide +kernel
theorem m_1155 : Cond.code yX12_doubt cX12_doubt 6 (some .int) ∈ BW := iB_BW62 _ (List.mem_of_getElem? (i := 3) rfl)
theorem m_1153 : Cond.methodLink RX12 152 yX12_doubt ∈ BW := iB_BW62 _ (List.mem_of_getElem? (i := 1) rfl)
theorem m_1154 : Cond.instanceMethod yX12_doubt ∈ BW := iB_BW62 _ (List.mem_of_getElem? (i := 2) rfl)
theorem m_59 : Cond.selects RX12 yX12_doubt yX12_doubt ∈ BW := iB_BW2 _ (List.mem_of_getElem? (i := 19) rfl)
theorem si_X12_152 : SV RX12 RX12 152 yX12_doubt cX12_doubt 6 (some .int) 0 := ⟨⟨m_1153, m_1154, m_59, m_115, m_1155⟩, rfl, nK_RX12.1, nK_RX12.2, pd_1⟩
end WR
def pcnt (j : Nat) : Nat := j % 2 + j / 2 % 2 + j / 4 % 2 + j / 8 % 2 + j / 16 % 2 + j / 32 % 2 + j / 64 % 2
theorem pcnt_le : ∀ j : Nat, pcnt j ≤ 7 := by
  intro j
  unfold pcnt
  omega
theorem pcnt_0a : ∀ j : Fin 128, pcnt j.1 ≤ 0 → j.1 = 0 := by decide +kernel
theorem pcnt_0 {j : Nat} (hj : j < 128) (h : pcnt j ≤ 0) : j = 0 := pcnt_0a ⟨j, hj⟩ h
theorem go_all : ∀ j : Fin 128, ∀ q : Fin 7, ((nI j.1 >>> (nI q.1 &&& 31)) &&& 1 = 1) → (nI j.1 ^^^ (1 <<< (nI q.1 &&& 31)) = nI (j.1 ^^^ 2 ^ q.1)) ∧ pcnt (j.1 ^^^ 2 ^ q.1) + 1 = pcnt j.1 ∧ j.1 ^^^ 2 ^ q.1 < 128 := by decide +kernel
theorem go_x {j q : Nat} (hj : j < 128) (hq : q < 7) (h : (nI j >>> (nI q &&& 31)) &&& 1 = 1) : ∃ j2, j2 < 128 ∧ nI j ^^^ (1 <<< (nI q &&& 31)) = nI j2 ∧ pcnt j2 + 1 = pcnt j := by
  obtain ⟨h1, h2, h3⟩ := go_all ⟨j, hj⟩ ⟨q, hq⟩ h
  exact ⟨_, h3, h1, h2⟩
theorem shl_all : ∀ k : Fin 8, ((1 : Int32) <<< (nI k.1 &&& 31)).toInt ≤ 128 := by decide +kernel
theorem lt_shl {x : Int32} {k : Nat} (hk : k ≤ 7) (h0 : ¬ x < 0) (h : x < 1 <<< (nI k &&& 31)) : ∃ j, j < 128 ∧ x = nI j := by
  obtain ⟨j, hj, rfl⟩ := nI_of h0
  rw [Int32.lt_iff_toInt_lt, nI_ti hj] at h
  have h9 := shl_all ⟨k, by omega⟩
  simp only at h9
  exact ⟨j, by omega, rfl⟩
theorem bit7_all : ∀ j : Fin 128, ∀ k : Fin 16, ((nI j.1 >>> (nI k.1 &&& 31)) &&& 1 = 0) ∨ (k.1 < 7 ∧ (nI j.1 >>> (nI k.1 &&& 31)) &&& 1 = 1) := by decide +kernel
theorem bits7 {j k c : Nat} {x y : Int32} (hj : j < 128) (hk : k < 16) (hc : c ≤ k ∧ c ≤ 7) (hx : x = nI c) (hy : y = x + ((nI j >>> (nI k &&& 31)) &&& 1)) : ∃ c2, (c2 ≤ k + 1 ∧ c2 ≤ 7) ∧ y = nI c2 := by
  rcases bit7_all ⟨j, hj⟩ ⟨k, hk⟩ with h | ⟨h1, h⟩
  · refine ⟨c, by omega, ?_⟩
    rw [hy, hx]
    simp only at h
    rw [h]
    exact Int32.add_zero _
  · refine ⟨c + 1, by simp only at h1; omega, ?_⟩
    rw [hy, hx]
    simp only at h
    rw [h]
    exact nI_1 _
def B6 (f : Nat → Int32) : Prop := ∀ i, i < 7 → ∃ q, q ≤ 6 ∧ f i = nI q
def B66 (f g : Nat → Int32) : Prop := B6 f ∧ B6 g
theorem B6.set {f : Nat → Int32} {k q : Nat} (h : B6 f) (hq : q ≤ 6) : B6 (upd f k (nI q)) := by
  intro i hi
  unfold upd
  by_cases c : i = k
  · rw [if_pos c]; exact ⟨q, hq, rfl⟩
  · rw [if_neg c]; exact h i hi
theorem B66.cp {f g : Nat → Int32} {k : Nat} {x : Int32} (h : B66 f g) (hk : k < 7) (hx : x = f k) : B66 f (upd g k x) := by
  obtain ⟨q, hq, e⟩ := h.1 k hk
  rw [hx, e]
  exact ⟨h.1, h.2.set hq⟩
theorem B66.tr {f g : Nat → Int32} {k q : Nat} (h : B66 f g) (hq : q ≤ 6) : B66 (upd f k (nI q)) g := ⟨h.1.set hq, h.2⟩
/-- both places lie in the sheet -/
def NT (x fi la : Int32) : Prop := ¬ fi < 0 ∧ ¬ x ≤ la
theorem NT.at {f : Nat → Int32} {i : Nat} {v : Int32} (h : SZ f) (hi : i < 4) (hn : NT (f i) v v) : ∃ j, j < 40 ∧ v = nI j := by
  obtain ⟨k, hk, e⟩ := h i hi
  obtain ⟨j, hj, rfl⟩ := nI_of hn.1
  have h2 := hn.2
  rw [e, nI_leI (by omega) hj] at h2
  exact ⟨j, by omega, rfl⟩
theorem lgc_le {x y : Int64} (h : lg_cmp x y ≤ 0) : x.toInt ≤ y.toInt := by
  unfold lg_cmp at h
  by_cases c : y < x
  · rw [if_pos c] at h; exact absurd h (by decide)
  · rw [Int64.lt_iff_toInt_lt] at c; omega
theorem l_ti {n : Nat} (h : n < 2 ^ 31) : (nI n).toInt64.toInt = (n : Int) := by
  rw [Int32.toInt_toInt64]
  exact nI_ti h
theorem bmod64 {x : Int} (h1 : -9223372036854775808 ≤ x) (h2 : x ≤ 9223372036854775807) : x.bmod (2 ^ 64) = x := by
  rw [Int.bmod_eq_of_le] <;> omega
theorem st_in {ji jn k : Nat} (hj : ji < 2 ^ 31) (hn : jn ≤ 9) (hk : k ≤ 40) (h : lg_cmp ((nI ji).toInt64 + 2 * (nI jn).toInt64) (nI k).toInt64 ≤ 0) : ji + 2 * jn ≤ k := by
  have h9 := lgc_le h
  have e2 : (2 : Int64).toInt = 2 := by decide
  rw [Int64.toInt_add, Int64.toInt_mul, l_ti (by omega), l_ti (by omega), l_ti (by omega), e2, bmod64 (x := 2 * (jn : Int)) (by omega) (by omega), bmod64 (by omega) (by omega)] at h9
  omega
theorem Wi4_4 {v : Int32} (h : Wi v 0 4) (h0 : ¬ v = 0) (h1 : ¬ v = 1) (h2 : ¬ v = 2) (h3 : ¬ v = 3) : v = 4 := by
  obtain ⟨j, hj, rfl⟩ := Wi_nat (N := 4) (by decide) h
  rcases (show j = 0 ∨ j = 1 ∨ j = 2 ∨ j = 3 ∨ j = 4 by omega) with rfl | rfl | rfl | rfl | rfl
  · exact absurd rfl h0
  · exact absurd rfl h1
  · exact absurd rfl h2
  · exact absurd rfl h3
  · rfl
/-- the codes on a sheet are stamps -/
def GD (f : Nat → Int32) (at9 n : Nat) : Prop := ∀ k, k < n → (∃ c, c ≤ 5 ∧ f (at9 + 2 * k) = nI c) ∧ ∃ h, h ≤ 999 ∧ f (at9 + 2 * k + 1) = nI h
theorem GD.zero {f : Nat → Int32} {at9 : Nat} : GD f at9 0 := fun k h => absurd h (Nat.not_lt_zero k)
theorem GD.next {f : Nat → Int32} {at9 n : Nat} {x y : Int32} (h : GD f at9 n) (hx : x = f (at9 + 2 * n)) (hy : y = f (at9 + 2 * n + 1)) (h1 : Wi x 0 5) (h2 : Wi y 0 999) : GD f at9 (n + 1) := by
  intro k hk
  by_cases c : k = n
  · subst c
    obtain ⟨j, hj, e⟩ := Wi_nat (N := 5) (by decide) h1
    obtain ⟨i, hi, e9⟩ := Wi_nat (N := 999) (by decide) h2
    exact ⟨⟨j, hj, hx.symm.trans e⟩, i, hi, hy.symm.trans e9⟩
  · exact h k (by omega)
section WR
variable {p : Program} {l : Launch} {e : Env} {R : Room} {s : State} {m : MethodId} {args : Array Value} {below : List Frame} {meth : Method} {c : Code} {H : Heap} {locs : List Loc} {cells slots : Nat} {Q : State → Prop}
variable {pc : Nat} {ls : Array Slot} {rest : List Value} {G : GG} {ws : va_W} {A : Nat → Prop} {y0 : MethodName} {b0 : ByteArray} {mL0 : Nat} {rt0 : Option FieldType} {a : Nat} {H0 : Heap}
theorem gX12_go_0 : (decode cX12_go 0 = .ok (.iload_n 2, 1)) ∧ (decode cX12_go 1 = .ok (.ifCond .ne 55, 3)) ∧ (decode cX12_go 4 = .ok (.aload_n 0, 1)) ∧ (decode cX12_go 5 = .ok (.getfield 320, 3)) ∧ (decode cX12_go 8 = .ok (.ifCond .lt 12, 3)) ∧ (decode cX12_go 11 = .ok (.iload 5, 2)) ∧ (decode cX12_go 13 = .ok (.aload_n 0, 1)) ∧ (decode cX12_go 14 = .ok (.getfield 320, 3)) ∧ (decode cX12_go 17 = .ok (.if_icmp .ge 38, 3)) ∧ (decode cX12_go 20 = .ok (.aload_n 0, 1)) := by decide +kernel
theorem gX12_go_2 : (decode cX12_go 41 = .ok (.aload_n 0, 1)) ∧ (decode cX12_go 42 = .ok (.getfield 57, 3)) ∧ (decode cX12_go 45 = .ok (.iload 6, 2)) ∧ (decode cX12_go 47 = .ok (.iaload, 1)) ∧ (decode cX12_go 48 = .ok (.iastore, 1)) ∧ (decode cX12_go 49 = .ok (.iinc 6 1, 3)) ∧ (decode cX12_go 52 = .ok (.goto (-23), 3)) ∧ (decode cX12_go 55 = .ok (.return_, 1)) ∧ (decode cX12_go 56 = .ok (.iconst 0, 1)) ∧ (decode cX12_go 57 = .ok (.istore 6, 2)) := by decide +kernel
theorem gX12_go_3 : (decode cX12_go 59 = .ok (.iload 6, 2)) ∧ (decode cX12_go 61 = .ok (.bipush 7, 2)) ∧ (decode cX12_go 63 = .ok (.if_icmp .ge 96, 3)) ∧ (decode cX12_go 66 = .ok (.iload_n 2, 1)) ∧ (decode cX12_go 67 = .ok (.iload 6, 2)) ∧ (decode cX12_go 69 = .ok (.invokestatic 99, 3)) ∧ (decode cX12_go 72 = .ok (.ifCond .eq 81, 3)) ∧ (decode cX12_go 75 = .ok (.iload_n 3, 1)) ∧ (decode cX12_go 76 = .ok (.aload_n 0, 1)) ∧ (decode cX12_go 77 = .ok (.getfield 9, 3)) := by decide +kernel
theorem gX12_go_9 : (decode cX12_go 159 = .ok (.return_, 1)) := by decide +kernel
theorem gX12_go_4 : (decode cX12_go 80 = .ok (.sipush 1648, 3)) ∧ (decode cX12_go 83 = .ok (.iconst 2, 1)) ∧ (decode cX12_go 84 = .ok (.iload 6, 2)) ∧ (decode cX12_go 86 = .ok (.imul, 1)) ∧ (decode cX12_go 87 = .ok (.iadd, 1)) ∧ (decode cX12_go 88 = .ok (.iaload, 1)) ∧ (decode cX12_go 89 = .ok (.iadd, 1)) ∧ (decode cX12_go 90 = .ok (.istore 7, 2)) ∧ (decode cX12_go 92 = .ok (.aload_n 0, 1)) ∧ (decode cX12_go 93 = .ok (.getfield 9, 3)) := by decide +kernel
theorem gX12_go_5 : (decode cX12_go 96 = .ok (.sipush 1648, 3)) ∧ (decode cX12_go 99 = .ok (.iconst 2, 1)) ∧ (decode cX12_go 100 = .ok (.iload 6, 2)) ∧ (decode cX12_go 102 = .ok (.imul, 1)) ∧ (decode cX12_go 103 = .ok (.iadd, 1)) ∧ (decode cX12_go 104 = .ok (.iconst 1, 1)) ∧ (decode cX12_go 105 = .ok (.iadd, 1)) ∧ (decode cX12_go 106 = .ok (.iaload, 1)) ∧ (decode cX12_go 107 = .ok (.istore 8, 2)) ∧ (decode cX12_go 109 = .ok (.aload_n 0, 1)) := by decide +kernel
theorem gX12_go_6 : (decode cX12_go 110 = .ok (.getfield 57, 3)) ∧ (decode cX12_go 113 = .ok (.iload_n 1, 1)) ∧ (decode cX12_go 114 = .ok (.iload 6, 2)) ∧ (decode cX12_go 116 = .ok (.iastore, 1)) ∧ (decode cX12_go 117 = .ok (.aload_n 0, 1)) ∧ (decode cX12_go 118 = .ok (.iload_n 1, 1)) ∧ (decode cX12_go 119 = .ok (.iconst 1, 1)) ∧ (decode cX12_go 120 = .ok (.iadd, 1)) ∧ (decode cX12_go 121 = .ok (.iload_n 2, 1)) ∧ (decode cX12_go 122 = .ok (.iconst 1, 1)) := by decide +kernel
theorem m_1055 : Cond.fieldLink RX12 57 "InquiryBenchModel" "trial" "[I" ∈ BW := iB_BW56 _ (List.mem_of_getElem? (i := 4) rfl)
theorem gf_X12_57 (hC : CX p s m meth c y0 b0 mL0 rt0 args) (hy0 : y0.cls = RX12) (hK : KK G s) (hP : va_P G.1 vwCl ws H) (q0 : Nat) {fs : List Value} {v : Value} (he : ws[q0]? = some (a, .inr (12, fs))) (hv : fs[25]? = some v) (hdg : decode b0 pc = .ok (.getfield 57, 3)) (kk : W p l e R s m args below meth c H locs cells slots Q (F0 m (pc + 3) ls (v :: rest))) : W p l e R s m args below meth c H locs cells slots Q (F0 m pc ls (.ref a :: rest)) := by
  obtain ⟨hx, hb, hr, hml, hB, hown, hlocks, hnm⟩ := hC
  rw [hy0] at hown
  exact va_get (ci := 12) (C := RX12) (T := TX12) (N := 41) hx hb hB in_X12 hown hK.1 hP q0 he rfl 25 (by decide) (hB _ m_1055) (fun _ h => h) hv hdg kk
theorem gX12_go_7 : (decode cX12_go 123 = .ok (.iload 6, 2)) ∧ (decode cX12_go 125 = .ok (.ishl, 1)) ∧ (decode cX12_go 126 = .ok (.ixor, 1)) ∧ (decode cX12_go 127 = .ok (.iload 7, 2)) ∧ (decode cX12_go 129 = .ok (.iload 4, 2)) ∧ (decode cX12_go 131 = .ok (.iload 8, 2)) ∧ (decode cX12_go 133 = .ok (.ior, 1)) ∧ (decode cX12_go 134 = .ok (.iload 5, 2)) ∧ (decode cX12_go 136 = .ok (.iload 7, 2)) ∧ (decode cX12_go 138 = .ok (.iload 8, 2)) := by decide +kernel
theorem gX12_go_8 : (decode cX12_go 140 = .ok (.iload 4, 2)) ∧ (decode cX12_go 142 = .ok (.iconst (-1), 1)) ∧ (decode cX12_go 143 = .ok (.ixor, 1)) ∧ (decode cX12_go 144 = .ok (.iand, 1)) ∧ (decode cX12_go 145 = .ok (.invokestatic 110, 3)) ∧ (decode cX12_go 148 = .ok (.imul, 1)) ∧ (decode cX12_go 149 = .ok (.iadd, 1)) ∧ (decode cX12_go 150 = .ok (.invokevirtual 323, 3)) ∧ (decode cX12_go 153 = .ok (.iinc 6 1, 3)) ∧ (decode cX12_go 156 = .ok (.goto (-97), 3)) := by decide +kernel
theorem m_1334 : Cond.code yX12_go cX12_go 9 none ∈ BW := iB_BW71 _ (List.mem_of_getElem? (i := 10) rfl)
theorem pd_32 : (parseMethodDescriptor "(IIIII)V").map (fun d => d.parameters.length) = some 5 := by decide +kernel
theorem m_1332 : Cond.methodLink RX12 323 yX12_go ∈ BW := iB_BW71 _ (List.mem_of_getElem? (i := 8) rfl)
theorem m_1333 : Cond.instanceMethod yX12_go ∈ BW := iB_BW71 _ (List.mem_of_getElem? (i := 9) rfl)
theorem m_94 : Cond.selects RX12 yX12_go yX12_go ∈ BW := iB_BW4 _ (List.mem_of_getElem? (i := 14) rfl)
theorem si_X12_323 : SV RX12 RX12 323 yX12_go cX12_go 9 none 5 := ⟨⟨m_1332, m_1333, m_94, m_115, m_1334⟩, rfl, nK_RX12.1, nK_RX12.2, pd_32⟩
theorem m_1057 : Cond.fieldLink RX12 320 "InquiryBenchModel" "bestCost" "I" ∈ BW := iB_BW56 _ (List.mem_of_getElem? (i := 6) rfl)
theorem gf_X12_320 (hC : CX p s m meth c y0 b0 mL0 rt0 args) (hy0 : y0.cls = RX12) (hK : KK G s) (hP : va_P G.1 vwCl ws H) (q0 : Nat) {fs : List Value} {v : Value} (he : ws[q0]? = some (a, .inr (12, fs))) (hv : fs[27]? = some v) (hdg : decode b0 pc = .ok (.getfield 320, 3)) (kk : W p l e R s m args below meth c H locs cells slots Q (F0 m (pc + 3) ls (v :: rest))) : W p l e R s m args below meth c H locs cells slots Q (F0 m pc ls (.ref a :: rest)) := by
  obtain ⟨hx, hb, hr, hml, hB, hown, hlocks, hnm⟩ := hC
  rw [hy0] at hown
  exact va_get (ci := 12) (C := RX12) (T := TX12) (N := 41) hx hb hB in_X12 hown hK.1 hP q0 he rfl 27 (by decide) (hB _ m_1057) (fun _ h => h) hv hdg kk
theorem gX12_go_1 : (decode cX12_go 21 = .ok (.iload 5, 2)) ∧ (decode cX12_go 23 = .ok (.putfield 320, 3)) ∧ (decode cX12_go 26 = .ok (.iconst 0, 1)) ∧ (decode cX12_go 27 = .ok (.istore 6, 2)) ∧ (decode cX12_go 29 = .ok (.iload 6, 2)) ∧ (decode cX12_go 31 = .ok (.iload_n 1, 1)) ∧ (decode cX12_go 32 = .ok (.if_icmp .ge 23, 3)) ∧ (decode cX12_go 35 = .ok (.aload_n 0, 1)) ∧ (decode cX12_go 36 = .ok (.getfield 60, 3)) ∧ (decode cX12_go 39 = .ok (.iload 6, 2)) := by decide +kernel
theorem pf_X12_320 (hC : CX p s m meth c y0 b0 mL0 rt0 args) (hy0 : y0.cls = RX12) (hK : KK G s) (hP : va_P G.1 vwCl ws H) (hD : va_D A ws) (hS : va_S A H0 H locs) (q0 : Nat) {fs : List Value} {v : Value} {ws' : va_W} (he : ws[q0]? = some (a, .inr (12, fs))) (hl : 27 < fs.length) (hws : ws.set q0 (a, .inr (12, fs.set 27 v)) = ws') (hn : narrow .int v = v) (hfit : fits .int v = true) (hdg : decode b0 pc = .ok (.putfield 320, 3)) (kk : ∀ (H1 : Heap) (locs1 : List Loc), va_P G.1 vwCl ws' H1 → va_D A ws' → va_S A H0 H1 locs1 → W p l e R s m args below meth c H1 locs1 cells slots Q (F0 m (pc + 3) ls rest)) : W p l e R s m args below meth c H locs cells slots Q (F0 m pc ls (v :: .ref a :: rest)) := by
  obtain ⟨hx, hb, hr, hml, hB, hown, hlocks, hnm⟩ := hC
  rw [hy0] at hown
  subst hws
  exact va_put (ci := 12) (ty := .int) (C := RX12) (T := TX12) (N := 41) hx hb hB in_X12 tyX12 tyX12_ok nmX12 hown hK.1 hP hD hS q0 he rfl 27 (by decide) (hB _ m_1057) (fun _ h => h) rfl (by decide +kernel) hn hfit hl hdg kk
theorem m_1056 : Cond.fieldLink RX12 60 "InquiryBenchModel" "best" "[I" ∈ BW := iB_BW56 _ (List.mem_of_getElem? (i := 5) rfl)
theorem gf_X12_60 (hC : CX p s m meth c y0 b0 mL0 rt0 args) (hy0 : y0.cls = RX12) (hK : KK G s) (hP : va_P G.1 vwCl ws H) (q0 : Nat) {fs : List Value} {v : Value} (he : ws[q0]? = some (a, .inr (12, fs))) (hv : fs[26]? = some v) (hdg : decode b0 pc = .ok (.getfield 60, 3)) (kk : W p l e R s m args below meth c H locs cells slots Q (F0 m (pc + 3) ls (v :: rest))) : W p l e R s m args below meth c H locs cells slots Q (F0 m pc ls (.ref a :: rest)) := by
  obtain ⟨hx, hb, hr, hml, hB, hown, hlocks, hnm⟩ := hC
  rw [hy0] at hown
  exact va_get (ci := 12) (C := RX12) (T := TX12) (N := 41) hx hb hB in_X12 hown hK.1 hP q0 he rfl 26 (by decide) (hB _ m_1056) (fun _ h => h) hv hdg kk
theorem gX12_round_0 : (decode cX12_round 0 = .ok (.iload_n 1, 1)) ∧ (decode cX12_round 1 = .ok (.ifCond .lt 16, 3)) ∧ (decode cX12_round 4 = .ok (.iload_n 1, 1)) ∧ (decode cX12_round 5 = .ok (.iconst 1, 1)) ∧ (decode cX12_round 6 = .ok (.aload_n 0, 1)) ∧ (decode cX12_round 7 = .ok (.getfield 9, 3)) ∧ (decode cX12_round 10 = .ok (.bipush 11, 2)) ∧ (decode cX12_round 12 = .ok (.iaload, 1)) ∧ (decode cX12_round 13 = .ok (.ishl, 1)) ∧ (decode cX12_round 14 = .ok (.if_icmp .lt 5, 3)) := by decide +kernel
theorem gX12_round_1 : (decode cX12_round 17 = .ok (.iconst (-1), 1)) ∧ (decode cX12_round 18 = .ok (.ireturn, 1)) ∧ (decode cX12_round 19 = .ok (.iload_n 1, 1)) ∧ (decode cX12_round 20 = .ok (.ifCond .ne 6, 3)) ∧ (decode cX12_round 23 = .ok (.bipush (-3), 2)) ∧ (decode cX12_round 25 = .ok (.ireturn, 1)) ∧ (decode cX12_round 26 = .ok (.aload_n 0, 1)) ∧ (decode cX12_round 27 = .ok (.iconst (-1), 1)) ∧ (decode cX12_round 28 = .ok (.putfield 320, 3)) ∧ (decode cX12_round 31 = .ok (.aload_n 0, 1)) := by decide +kernel
theorem gX12_round_2 : (decode cX12_round 32 = .ok (.iconst 0, 1)) ∧ (decode cX12_round 33 = .ok (.iload_n 1, 1)) ∧ (decode cX12_round 34 = .ok (.iconst 0, 1)) ∧ (decode cX12_round 35 = .ok (.iconst 0, 1)) ∧ (decode cX12_round 36 = .ok (.iconst 0, 1)) ∧ (decode cX12_round 37 = .ok (.invokevirtual 323, 3)) ∧ (decode cX12_round 40 = .ok (.aload_n 0, 1)) ∧ (decode cX12_round 41 = .ok (.iload_n 1, 1)) ∧ (decode cX12_round 42 = .ok (.invokestatic 110, 3)) ∧ (decode cX12_round 45 = .ok (.putfield 327, 3)) := by decide +kernel
theorem m_1036 : Cond.fieldLink RX12 327 "InquiryBenchModel" "rowMany" "I" ∈ BW := iB_BW55 _ (List.mem_of_getElem? (i := 5) rfl)
theorem pf_X12_327 (hC : CX p s m meth c y0 b0 mL0 rt0 args) (hy0 : y0.cls = RX12) (hK : KK G s) (hP : va_P G.1 vwCl ws H) (hD : va_D A ws) (hS : va_S A H0 H locs) (q0 : Nat) {fs : List Value} {v : Value} {ws' : va_W} (he : ws[q0]? = some (a, .inr (12, fs))) (hl : 6 < fs.length) (hws : ws.set q0 (a, .inr (12, fs.set 6 v)) = ws') (hn : narrow .int v = v) (hfit : fits .int v = true) (hdg : decode b0 pc = .ok (.putfield 327, 3)) (kk : ∀ (H1 : Heap) (locs1 : List Loc), va_P G.1 vwCl ws' H1 → va_D A ws' → va_S A H0 H1 locs1 → W p l e R s m args below meth c H1 locs1 cells slots Q (F0 m (pc + 3) ls rest)) : W p l e R s m args below meth c H locs cells slots Q (F0 m pc ls (v :: .ref a :: rest)) := by
  obtain ⟨hx, hb, hr, hml, hB, hown, hlocks, hnm⟩ := hC
  rw [hy0] at hown
  subst hws
  exact va_put (ci := 12) (ty := .int) (C := RX12) (T := TX12) (N := 41) hx hb hB in_X12 tyX12 tyX12_ok nmX12 hown hK.1 hP hD hS q0 he rfl 6 (by decide) (hB _ m_1036) (fun _ h => h) rfl (by decide +kernel) hn hfit hl hdg kk
theorem gX12_round_3 : (decode cX12_round 48 = .ok (.aload_n 0, 1)) ∧ (decode cX12_round 49 = .ok (.iload_n 1, 1)) ∧ (decode cX12_round 50 = .ok (.putfield 22, 3)) ∧ (decode cX12_round 53 = .ok (.aload_n 0, 1)) ∧ (decode cX12_round 54 = .ok (.aload_n 0, 1)) ∧ (decode cX12_round 55 = .ok (.getfield 9, 3)) ∧ (decode cX12_round 58 = .ok (.iconst 0, 1)) ∧ (decode cX12_round 59 = .ok (.iaload, 1)) ∧ (decode cX12_round 60 = .ok (.putfield 330, 3)) ∧ (decode cX12_round 63 = .ok (.aload_n 0, 1)) := by decide +kernel
theorem m_1037 : Cond.fieldLink RX12 22 "InquiryBenchModel" "roundOf" "I" ∈ BW := iB_BW55 _ (List.mem_of_getElem? (i := 6) rfl)
theorem pf_X12_22 (hC : CX p s m meth c y0 b0 mL0 rt0 args) (hy0 : y0.cls = RX12) (hK : KK G s) (hP : va_P G.1 vwCl ws H) (hD : va_D A ws) (hS : va_S A H0 H locs) (q0 : Nat) {fs : List Value} {v : Value} {ws' : va_W} (he : ws[q0]? = some (a, .inr (12, fs))) (hl : 7 < fs.length) (hws : ws.set q0 (a, .inr (12, fs.set 7 v)) = ws') (hn : narrow .int v = v) (hfit : fits .int v = true) (hdg : decode b0 pc = .ok (.putfield 22, 3)) (kk : ∀ (H1 : Heap) (locs1 : List Loc), va_P G.1 vwCl ws' H1 → va_D A ws' → va_S A H0 H1 locs1 → W p l e R s m args below meth c H1 locs1 cells slots Q (F0 m (pc + 3) ls rest)) : W p l e R s m args below meth c H locs cells slots Q (F0 m pc ls (v :: .ref a :: rest)) := by
  obtain ⟨hx, hb, hr, hml, hB, hown, hlocks, hnm⟩ := hC
  rw [hy0] at hown
  subst hws
  exact va_put (ci := 12) (ty := .int) (C := RX12) (T := TX12) (N := 41) hx hb hB in_X12 tyX12 tyX12_ok nmX12 hown hK.1 hP hD hS q0 he rfl 7 (by decide) (hB _ m_1037) (fun _ h => h) rfl (by decide +kernel) hn hfit hl hdg kk
theorem m_1038 : Cond.fieldLink RX12 330 "InquiryBenchModel" "roundFrom" "I" ∈ BW := iB_BW55 _ (List.mem_of_getElem? (i := 7) rfl)
theorem pf_X12_330 (hC : CX p s m meth c y0 b0 mL0 rt0 args) (hy0 : y0.cls = RX12) (hK : KK G s) (hP : va_P G.1 vwCl ws H) (hD : va_D A ws) (hS : va_S A H0 H locs) (q0 : Nat) {fs : List Value} {v : Value} {ws' : va_W} (he : ws[q0]? = some (a, .inr (12, fs))) (hl : 8 < fs.length) (hws : ws.set q0 (a, .inr (12, fs.set 8 v)) = ws') (hn : narrow .int v = v) (hfit : fits .int v = true) (hdg : decode b0 pc = .ok (.putfield 330, 3)) (kk : ∀ (H1 : Heap) (locs1 : List Loc), va_P G.1 vwCl ws' H1 → va_D A ws' → va_S A H0 H1 locs1 → W p l e R s m args below meth c H1 locs1 cells slots Q (F0 m (pc + 3) ls rest)) : W p l e R s m args below meth c H locs cells slots Q (F0 m pc ls (v :: .ref a :: rest)) := by
  obtain ⟨hx, hb, hr, hml, hB, hown, hlocks, hnm⟩ := hC
  rw [hy0] at hown
  subst hws
  exact va_put (ci := 12) (ty := .int) (C := RX12) (T := TX12) (N := 41) hx hb hB in_X12 tyX12 tyX12_ok nmX12 hown hK.1 hP hD hS q0 he rfl 8 (by decide) (hB _ m_1038) (fun _ h => h) rfl (by decide +kernel) hn hfit hl hdg kk
theorem gX12_round_4 : (decode cX12_round 64 = .ok (.getfield 330, 3)) ∧ (decode cX12_round 67 = .ok (.istore_n 2, 1)) ∧ (decode cX12_round 68 = .ok (.iconst 0, 1)) ∧ (decode cX12_round 69 = .ok (.istore_n 3, 1)) ∧ (decode cX12_round 70 = .ok (.iload_n 3, 1)) ∧ (decode cX12_round 71 = .ok (.aload_n 0, 1)) ∧ (decode cX12_round 72 = .ok (.getfield 327, 3)) ∧ (decode cX12_round 75 = .ok (.if_icmp .ge 54, 3)) ∧ (decode cX12_round 78 = .ok (.iload_n 2, 1)) ∧ (decode cX12_round 79 = .ok (.aload_n 0, 1)) := by decide +kernel
theorem gf_X12_330 (hC : CX p s m meth c y0 b0 mL0 rt0 args) (hy0 : y0.cls = RX12) (hK : KK G s) (hP : va_P G.1 vwCl ws H) (q0 : Nat) {fs : List Value} {v : Value} (he : ws[q0]? = some (a, .inr (12, fs))) (hv : fs[8]? = some v) (hdg : decode b0 pc = .ok (.getfield 330, 3)) (kk : W p l e R s m args below meth c H locs cells slots Q (F0 m (pc + 3) ls (v :: rest))) : W p l e R s m args below meth c H locs cells slots Q (F0 m pc ls (.ref a :: rest)) := by
  obtain ⟨hx, hb, hr, hml, hB, hown, hlocks, hnm⟩ := hC
  rw [hy0] at hown
  exact va_get (ci := 12) (C := RX12) (T := TX12) (N := 41) hx hb hB in_X12 hown hK.1 hP q0 he rfl 8 (by decide) (hB _ m_1038) (fun _ h => h) hv hdg kk
theorem gf_X12_327 (hC : CX p s m meth c y0 b0 mL0 rt0 args) (hy0 : y0.cls = RX12) (hK : KK G s) (hP : va_P G.1 vwCl ws H) (q0 : Nat) {fs : List Value} {v : Value} (he : ws[q0]? = some (a, .inr (12, fs))) (hv : fs[6]? = some v) (hdg : decode b0 pc = .ok (.getfield 327, 3)) (kk : W p l e R s m args below meth c H locs cells slots Q (F0 m (pc + 3) ls (v :: rest))) : W p l e R s m args below meth c H locs cells slots Q (F0 m pc ls (.ref a :: rest)) := by
  obtain ⟨hx, hb, hr, hml, hB, hown, hlocks, hnm⟩ := hC
  rw [hy0] at hown
  exact va_get (ci := 12) (C := RX12) (T := TX12) (N := 41) hx hb hB in_X12 hown hK.1 hP q0 he rfl 6 (by decide) (hB _ m_1036) (fun _ h => h) hv hdg kk
theorem gX12_round_8 : (decode cX12_round 122 = .ok (.iastore, 1)) ∧ (decode cX12_round 123 = .ok (.iinc 3 1, 3)) ∧ (decode cX12_round 126 = .ok (.goto (-56), 3)) ∧ (decode cX12_round 129 = .ok (.aload_n 0, 1)) ∧ (decode cX12_round 130 = .ok (.getfield 320, 3)) ∧ (decode cX12_round 133 = .ok (.ireturn, 1)) := by decide +kernel
theorem gX12_round_5 : (decode cX12_round 80 = .ok (.getfield 9, 3)) ∧ (decode cX12_round 83 = .ok (.sipush 1648, 3)) ∧ (decode cX12_round 86 = .ok (.iconst 2, 1)) ∧ (decode cX12_round 87 = .ok (.aload_n 0, 1)) ∧ (decode cX12_round 88 = .ok (.getfield 60, 3)) ∧ (decode cX12_round 91 = .ok (.iload_n 3, 1)) ∧ (decode cX12_round 92 = .ok (.iaload, 1)) ∧ (decode cX12_round 93 = .ok (.imul, 1)) ∧ (decode cX12_round 94 = .ok (.iadd, 1)) ∧ (decode cX12_round 95 = .ok (.iaload, 1)) := by decide +kernel
theorem gX12_round_6 : (decode cX12_round 96 = .ok (.iadd, 1)) ∧ (decode cX12_round 97 = .ok (.istore_n 2, 1)) ∧ (decode cX12_round 98 = .ok (.aload_n 0, 1)) ∧ (decode cX12_round 99 = .ok (.getfield 19, 3)) ∧ (decode cX12_round 102 = .ok (.iconst 2, 1)) ∧ (decode cX12_round 103 = .ok (.iload_n 3, 1)) ∧ (decode cX12_round 104 = .ok (.imul, 1)) ∧ (decode cX12_round 105 = .ok (.aload_n 0, 1)) ∧ (decode cX12_round 106 = .ok (.getfield 60, 3)) ∧ (decode cX12_round 109 = .ok (.iload_n 3, 1)) := by decide +kernel
theorem m_1035 : Cond.fieldLink RX12 19 "InquiryBenchModel" "rows" "[I" ∈ BW := iB_BW55 _ (List.mem_of_getElem? (i := 4) rfl)
theorem gf_X12_19 (hC : CX p s m meth c y0 b0 mL0 rt0 args) (hy0 : y0.cls = RX12) (hK : KK G s) (hP : va_P G.1 vwCl ws H) (q0 : Nat) {fs : List Value} {v : Value} (he : ws[q0]? = some (a, .inr (12, fs))) (hv : fs[5]? = some v) (hdg : decode b0 pc = .ok (.getfield 19, 3)) (kk : W p l e R s m args below meth c H locs cells slots Q (F0 m (pc + 3) ls (v :: rest))) : W p l e R s m args below meth c H locs cells slots Q (F0 m pc ls (.ref a :: rest)) := by
  obtain ⟨hx, hb, hr, hml, hB, hown, hlocks, hnm⟩ := hC
  rw [hy0] at hown
  exact va_get (ci := 12) (C := RX12) (T := TX12) (N := 41) hx hb hB in_X12 hown hK.1 hP q0 he rfl 5 (by decide) (hB _ m_1035) (fun _ h => h) hv hdg kk
theorem gX12_round_7 : (decode cX12_round 110 = .ok (.iaload, 1)) ∧ (decode cX12_round 111 = .ok (.iastore, 1)) ∧ (decode cX12_round 112 = .ok (.aload_n 0, 1)) ∧ (decode cX12_round 113 = .ok (.getfield 19, 3)) ∧ (decode cX12_round 116 = .ok (.iconst 2, 1)) ∧ (decode cX12_round 117 = .ok (.iload_n 3, 1)) ∧ (decode cX12_round 118 = .ok (.imul, 1)) ∧ (decode cX12_round 119 = .ok (.iconst 1, 1)) ∧ (decode cX12_round 120 = .ok (.iadd, 1)) ∧ (decode cX12_round 121 = .ok (.iload_n 2, 1)) := by decide +kernel
theorem gX12_isRow_0 : (decode cX12_isRow 0 = .ok (.iload_n 1, 1)) ∧ (decode cX12_isRow 1 = .ok (.iconst 0, 1)) ∧ (decode cX12_isRow 2 = .ok (.aload_n 0, 1)) ∧ (decode cX12_isRow 3 = .ok (.getfield 327, 3)) ∧ (decode cX12_isRow 6 = .ok (.iconst 1, 1)) ∧ (decode cX12_isRow 7 = .ok (.isub, 1)) ∧ (decode cX12_isRow 8 = .ok (.invokestatic 84, 3)) ∧ (decode cX12_isRow 11 = .ok (.ifCond .eq 16, 3)) ∧ (decode cX12_isRow 14 = .ok (.iload_n 2, 1)) ∧ (decode cX12_isRow 15 = .ok (.iconst 0, 1)) := by decide +kernel
theorem gX12_isRow_1 : (decode cX12_isRow 16 = .ok (.iconst 1, 1)) ∧ (decode cX12_isRow 17 = .ok (.invokestatic 84, 3)) ∧ (decode cX12_isRow 20 = .ok (.ifCond .eq 7, 3)) ∧ (decode cX12_isRow 23 = .ok (.iconst 1, 1)) ∧ (decode cX12_isRow 24 = .ok (.goto 4, 3)) ∧ (decode cX12_isRow 27 = .ok (.iconst 0, 1)) ∧ (decode cX12_isRow 28 = .ok (.ireturn, 1)) := by decide +kernel
theorem gX12_row_0 : (decode cX12_row 0 = .ok (.aload_n 0, 1)) ∧ (decode cX12_row 1 = .ok (.iload_n 1, 1)) ∧ (decode cX12_row 2 = .ok (.iload_n 2, 1)) ∧ (decode cX12_row 3 = .ok (.invokevirtual 333, 3)) ∧ (decode cX12_row 6 = .ok (.ifCond .eq 16, 3)) ∧ (decode cX12_row 9 = .ok (.aload_n 0, 1)) ∧ (decode cX12_row 10 = .ok (.getfield 19, 3)) ∧ (decode cX12_row 13 = .ok (.iconst 2, 1)) ∧ (decode cX12_row 14 = .ok (.iload_n 1, 1)) ∧ (decode cX12_row 15 = .ok (.imul, 1)) := by decide +kernel
theorem m_1341 : Cond.code yX12_isRow cX12_isRow 3 (some .boolean) ∈ BW := iB_BW71 _ (List.mem_of_getElem? (i := 17) rfl)
theorem m_1339 : Cond.methodLink RX12 333 yX12_isRow ∈ BW := iB_BW71 _ (List.mem_of_getElem? (i := 15) rfl)
theorem m_1340 : Cond.instanceMethod yX12_isRow ∈ BW := iB_BW71 _ (List.mem_of_getElem? (i := 16) rfl)
theorem m_95 : Cond.selects RX12 yX12_isRow yX12_isRow ∈ BW := iB_BW4 _ (List.mem_of_getElem? (i := 15) rfl)
theorem si_X12_333 : SV RX12 RX12 333 yX12_isRow cX12_isRow 3 (some .boolean) 2 := ⟨⟨m_1339, m_1340, m_95, m_115, m_1341⟩, rfl, nK_RX12.1, nK_RX12.2, pd_3⟩
theorem gX12_row_1 : (decode cX12_row 16 = .ok (.iload_n 2, 1)) ∧ (decode cX12_row 17 = .ok (.iadd, 1)) ∧ (decode cX12_row 18 = .ok (.iaload, 1)) ∧ (decode cX12_row 19 = .ok (.goto 5, 3)) ∧ (decode cX12_row 22 = .ok (.bipush (-9), 2)) ∧ (decode cX12_row 24 = .ok (.ireturn, 1)) := by decide +kernel
theorem gX12_alterRow_0 : (decode cX12_alterRow 0 = .ok (.aload_n 0, 1)) ∧ (decode cX12_alterRow 1 = .ok (.iload_n 1, 1)) ∧ (decode cX12_alterRow 2 = .ok (.iload_n 2, 1)) ∧ (decode cX12_alterRow 3 = .ok (.invokevirtual 333, 3)) ∧ (decode cX12_alterRow 6 = .ok (.ifCond .ne 6, 3)) ∧ (decode cX12_alterRow 9 = .ok (.bipush (-9), 2)) ∧ (decode cX12_alterRow 11 = .ok (.ireturn, 1)) ∧ (decode cX12_alterRow 12 = .ok (.aload_n 0, 1)) ∧ (decode cX12_alterRow 13 = .ok (.getfield 19, 3)) ∧ (decode cX12_alterRow 16 = .ok (.iconst 2, 1)) := by decide +kernel
theorem gX12_alterRow_1 : (decode cX12_alterRow 17 = .ok (.iload_n 1, 1)) ∧ (decode cX12_alterRow 18 = .ok (.imul, 1)) ∧ (decode cX12_alterRow 19 = .ok (.iload_n 2, 1)) ∧ (decode cX12_alterRow 20 = .ok (.iadd, 1)) ∧ (decode cX12_alterRow 21 = .ok (.iaload, 1)) ∧ (decode cX12_alterRow 22 = .ok (.istore 4, 2)) ∧ (decode cX12_alterRow 24 = .ok (.aload_n 0, 1)) ∧ (decode cX12_alterRow 25 = .ok (.getfield 19, 3)) ∧ (decode cX12_alterRow 28 = .ok (.iconst 2, 1)) ∧ (decode cX12_alterRow 29 = .ok (.iload_n 1, 1)) := by decide +kernel
theorem gX12_alterRow_2 : (decode cX12_alterRow 30 = .ok (.imul, 1)) ∧ (decode cX12_alterRow 31 = .ok (.iload_n 2, 1)) ∧ (decode cX12_alterRow 32 = .ok (.iadd, 1)) ∧ (decode cX12_alterRow 33 = .ok (.iload_n 3, 1)) ∧ (decode cX12_alterRow 34 = .ok (.iastore, 1)) ∧ (decode cX12_alterRow 35 = .ok (.iload 4, 2)) ∧ (decode cX12_alterRow 37 = .ok (.ireturn, 1)) := by decide +kernel
theorem gX12_dropRow_0 : (decode cX12_dropRow 0 = .ok (.aload_n 0, 1)) ∧ (decode cX12_dropRow 1 = .ok (.getfield 327, 3)) ∧ (decode cX12_dropRow 4 = .ok (.ifCond .ne 6, 3)) ∧ (decode cX12_dropRow 7 = .ok (.bipush (-3), 2)) ∧ (decode cX12_dropRow 9 = .ok (.ireturn, 1)) ∧ (decode cX12_dropRow 10 = .ok (.aload_n 0, 1)) ∧ (decode cX12_dropRow 11 = .ok (.dup, 1)) ∧ (decode cX12_dropRow 12 = .ok (.getfield 327, 3)) ∧ (decode cX12_dropRow 15 = .ok (.iconst 1, 1)) ∧ (decode cX12_dropRow 16 = .ok (.isub, 1)) := by decide +kernel
theorem gX12_dropRow_1 : (decode cX12_dropRow 17 = .ok (.putfield 327, 3)) ∧ (decode cX12_dropRow 20 = .ok (.aload_n 0, 1)) ∧ (decode cX12_dropRow 21 = .ok (.getfield 327, 3)) ∧ (decode cX12_dropRow 24 = .ok (.ireturn, 1)) := by decide +kernel
theorem gX12_judge_0 : (decode cX12_judge 0 = .ok (.aload_n 0, 1)) ∧ (decode cX12_judge 1 = .ok (.getfield 22, 3)) ∧ (decode cX12_judge 4 = .ok (.ifCond .ge 6, 3)) ∧ (decode cX12_judge 7 = .ok (.bipush (-3), 2)) ∧ (decode cX12_judge 9 = .ok (.ireturn, 1)) ∧ (decode cX12_judge 10 = .ok (.iconst 0, 1)) ∧ (decode cX12_judge 11 = .ok (.istore_n 1, 1)) ∧ (decode cX12_judge 12 = .ok (.iconst 0, 1)) ∧ (decode cX12_judge 13 = .ok (.istore_n 2, 1)) ∧ (decode cX12_judge 14 = .ok (.iload_n 2, 1)) := by decide +kernel
theorem gf_X12_22 (hC : CX p s m meth c y0 b0 mL0 rt0 args) (hy0 : y0.cls = RX12) (hK : KK G s) (hP : va_P G.1 vwCl ws H) (q0 : Nat) {fs : List Value} {v : Value} (he : ws[q0]? = some (a, .inr (12, fs))) (hv : fs[7]? = some v) (hdg : decode b0 pc = .ok (.getfield 22, 3)) (kk : W p l e R s m args below meth c H locs cells slots Q (F0 m (pc + 3) ls (v :: rest))) : W p l e R s m args below meth c H locs cells slots Q (F0 m pc ls (.ref a :: rest)) := by
  obtain ⟨hx, hb, hr, hml, hB, hown, hlocks, hnm⟩ := hC
  rw [hy0] at hown
  exact va_get (ci := 12) (C := RX12) (T := TX12) (N := 41) hx hb hB in_X12 hown hK.1 hP q0 he rfl 7 (by decide) (hB _ m_1037) (fun _ h => h) hv hdg kk
theorem gX12_judge_1 : (decode cX12_judge 15 = .ok (.aload_n 0, 1)) ∧ (decode cX12_judge 16 = .ok (.getfield 9, 3)) ∧ (decode cX12_judge 19 = .ok (.bipush 11, 2)) ∧ (decode cX12_judge 21 = .ok (.iaload, 1)) ∧ (decode cX12_judge 22 = .ok (.if_icmp .ge 20, 3)) ∧ (decode cX12_judge 25 = .ok (.iload_n 1, 1)) ∧ (decode cX12_judge 26 = .ok (.aload_n 0, 1)) ∧ (decode cX12_judge 27 = .ok (.getfield 22, 3)) ∧ (decode cX12_judge 30 = .ok (.iconst 1, 1)) ∧ (decode cX12_judge 31 = .ok (.iload_n 2, 1)) := by decide +kernel
theorem gX12_judge_2 : (decode cX12_judge 32 = .ok (.ishl, 1)) ∧ (decode cX12_judge 33 = .ok (.iand, 1)) ∧ (decode cX12_judge 34 = .ok (.ior, 1)) ∧ (decode cX12_judge 35 = .ok (.istore_n 1, 1)) ∧ (decode cX12_judge 36 = .ok (.iinc 2 1, 3)) ∧ (decode cX12_judge 39 = .ok (.goto (-25), 3)) ∧ (decode cX12_judge 42 = .ok (.aload_n 0, 1)) ∧ (decode cX12_judge 43 = .ok (.getfield 330, 3)) ∧ (decode cX12_judge 46 = .ok (.istore_n 2, 1)) ∧ (decode cX12_judge 47 = .ok (.iconst 0, 1)) := by decide +kernel
theorem gX12_judge_3 : (decode cX12_judge 48 = .ok (.istore_n 3, 1)) ∧ (decode cX12_judge 49 = .ok (.iload_n 3, 1)) ∧ (decode cX12_judge 50 = .ok (.aload_n 0, 1)) ∧ (decode cX12_judge 51 = .ok (.getfield 327, 3)) ∧ (decode cX12_judge 54 = .ok (.if_icmp .ge 84, 3)) ∧ (decode cX12_judge 57 = .ok (.aload_n 0, 1)) ∧ (decode cX12_judge 58 = .ok (.getfield 19, 3)) ∧ (decode cX12_judge 61 = .ok (.iconst 2, 1)) ∧ (decode cX12_judge 62 = .ok (.iload_n 3, 1)) ∧ (decode cX12_judge 63 = .ok (.imul, 1)) := by decide +kernel
theorem gX12_judge_8 : (decode cX12_judge 124 = .ok (.iload_n 2, 1)) ∧ (decode cX12_judge 125 = .ok (.if_icmp .eq 7, 3)) ∧ (decode cX12_judge 128 = .ok (.iload_n 3, 1)) ∧ (decode cX12_judge 129 = .ok (.iconst 1, 1)) ∧ (decode cX12_judge 130 = .ok (.iadd, 1)) ∧ (decode cX12_judge 131 = .ok (.ireturn, 1)) ∧ (decode cX12_judge 132 = .ok (.iinc 3 1, 3)) ∧ (decode cX12_judge 135 = .ok (.goto (-86), 3)) ∧ (decode cX12_judge 138 = .ok (.aload_n 0, 1)) ∧ (decode cX12_judge 139 = .ok (.getfield 327, 3)) := by decide +kernel
theorem gX12_judge_9 : (decode cX12_judge 142 = .ok (.aload_n 0, 1)) ∧ (decode cX12_judge 143 = .ok (.getfield 22, 3)) ∧ (decode cX12_judge 146 = .ok (.invokestatic 110, 3)) ∧ (decode cX12_judge 149 = .ok (.if_icmp .ge 12, 3)) ∧ (decode cX12_judge 152 = .ok (.aload_n 0, 1)) ∧ (decode cX12_judge 153 = .ok (.getfield 327, 3)) ∧ (decode cX12_judge 156 = .ok (.iconst 1, 1)) ∧ (decode cX12_judge 157 = .ok (.iadd, 1)) ∧ (decode cX12_judge 158 = .ok (.goto 4, 3)) ∧ (decode cX12_judge 161 = .ok (.iconst 0, 1)) := by decide +kernel
theorem gX12_judge_10 : (decode cX12_judge 162 = .ok (.ireturn, 1)) := by decide +kernel
theorem gX12_judge_4 : (decode cX12_judge 64 = .ok (.iaload, 1)) ∧ (decode cX12_judge 65 = .ok (.istore 4, 2)) ∧ (decode cX12_judge 67 = .ok (.iload 4, 2)) ∧ (decode cX12_judge 69 = .ok (.iconst 0, 1)) ∧ (decode cX12_judge 70 = .ok (.bipush 6, 2)) ∧ (decode cX12_judge 72 = .ok (.invokestatic 84, 3)) ∧ (decode cX12_judge 75 = .ok (.ifCond .eq 12, 3)) ∧ (decode cX12_judge 78 = .ok (.iload_n 1, 1)) ∧ (decode cX12_judge 79 = .ok (.iload 4, 2)) ∧ (decode cX12_judge 81 = .ok (.invokestatic 99, 3)) := by decide +kernel
theorem gX12_judge_5 : (decode cX12_judge 84 = .ok (.ifCond .ne 7, 3)) ∧ (decode cX12_judge 87 = .ok (.iload_n 3, 1)) ∧ (decode cX12_judge 88 = .ok (.iconst 1, 1)) ∧ (decode cX12_judge 89 = .ok (.iadd, 1)) ∧ (decode cX12_judge 90 = .ok (.ireturn, 1)) ∧ (decode cX12_judge 91 = .ok (.iload_n 1, 1)) ∧ (decode cX12_judge 92 = .ok (.iconst 1, 1)) ∧ (decode cX12_judge 93 = .ok (.iload 4, 2)) ∧ (decode cX12_judge 95 = .ok (.ishl, 1)) ∧ (decode cX12_judge 96 = .ok (.ixor, 1)) := by decide +kernel
theorem gX12_judge_6 : (decode cX12_judge 97 = .ok (.istore_n 1, 1)) ∧ (decode cX12_judge 98 = .ok (.iload_n 2, 1)) ∧ (decode cX12_judge 99 = .ok (.aload_n 0, 1)) ∧ (decode cX12_judge 100 = .ok (.getfield 9, 3)) ∧ (decode cX12_judge 103 = .ok (.sipush 1648, 3)) ∧ (decode cX12_judge 106 = .ok (.iconst 2, 1)) ∧ (decode cX12_judge 107 = .ok (.iload 4, 2)) ∧ (decode cX12_judge 109 = .ok (.imul, 1)) ∧ (decode cX12_judge 110 = .ok (.iadd, 1)) ∧ (decode cX12_judge 111 = .ok (.iaload, 1)) := by decide +kernel
theorem gX12_judge_7 : (decode cX12_judge 112 = .ok (.iadd, 1)) ∧ (decode cX12_judge 113 = .ok (.istore_n 2, 1)) ∧ (decode cX12_judge 114 = .ok (.aload_n 0, 1)) ∧ (decode cX12_judge 115 = .ok (.getfield 19, 3)) ∧ (decode cX12_judge 118 = .ok (.iconst 2, 1)) ∧ (decode cX12_judge 119 = .ok (.iload_n 3, 1)) ∧ (decode cX12_judge 120 = .ok (.imul, 1)) ∧ (decode cX12_judge 121 = .ok (.iconst 1, 1)) ∧ (decode cX12_judge 122 = .ok (.iadd, 1)) ∧ (decode cX12_judge 123 = .ok (.iaload, 1)) := by decide +kernel
theorem gX12_sheet_0 : (decode cX12_sheet 0 = .ok (.iload_n 1, 1)) ∧ (decode cX12_sheet 1 = .ok (.invokestatic 336, 3)) ∧ (decode cX12_sheet 4 = .ok (.ifCond .eq 22, 3)) ∧ (decode cX12_sheet 7 = .ok (.iload_n 2, 1)) ∧ (decode cX12_sheet 8 = .ok (.iconst (-1), 1)) ∧ (decode cX12_sheet 9 = .ok (.iconst 4, 1)) ∧ (decode cX12_sheet 10 = .ok (.invokestatic 84, 3)) ∧ (decode cX12_sheet 13 = .ok (.ifCond .eq 13, 3)) ∧ (decode cX12_sheet 16 = .ok (.iload_n 2, 1)) ∧ (decode cX12_sheet 17 = .ok (.ifCond .lt 11, 3)) := by decide +kernel
theorem m_1360 : Cond.code yX12_isFour cX12_isFour 1 (some .boolean) ∈ BW := iB_BW72 _ (List.mem_of_getElem? (i := 16) rfl)
theorem m_1358 : Cond.methodLink RX12 336 yX12_isFour ∈ BW := iB_BW72 _ (List.mem_of_getElem? (i := 14) rfl)
theorem m_1359 : Cond.static yX12_isFour ∈ BW := iB_BW72 _ (List.mem_of_getElem? (i := 15) rfl)
theorem si_X12_336 : SS RX12 336 yX12_isFour cX12_isFour 1 (some .boolean) 1 := ⟨⟨m_1358, m_1359, m_115, m_1360⟩, ⟨nK_RX12.1, nK_RX12.2, pd_5⟩⟩
theorem gX12_sheet_1 : (decode cX12_sheet 20 = .ok (.iload_n 3, 1)) ∧ (decode cX12_sheet 21 = .ok (.bipush 40, 2)) ∧ (decode cX12_sheet 23 = .ok (.if_icmp .le 5, 3)) ∧ (decode cX12_sheet 26 = .ok (.iconst (-1), 1)) ∧ (decode cX12_sheet 27 = .ok (.ireturn, 1)) ∧ (decode cX12_sheet 28 = .ok (.iload_n 2, 1)) ∧ (decode cX12_sheet 29 = .ok (.ifCond .lt 10, 3)) ∧ (decode cX12_sheet 32 = .ok (.iload_n 3, 1)) ∧ (decode cX12_sheet 33 = .ok (.ifCond .ge 6, 3)) ∧ (decode cX12_sheet 36 = .ok (.bipush (-14), 2)) := by decide +kernel
theorem gX12_sheet_2 : (decode cX12_sheet 38 = .ok (.ireturn, 1)) ∧ (decode cX12_sheet 39 = .ok (.aload_n 0, 1)) ∧ (decode cX12_sheet 40 = .ok (.getfield 63, 3)) ∧ (decode cX12_sheet 43 = .ok (.iload_n 1, 1)) ∧ (decode cX12_sheet 44 = .ok (.iload_n 2, 1)) ∧ (decode cX12_sheet 45 = .ok (.iastore, 1)) ∧ (decode cX12_sheet 46 = .ok (.aload_n 0, 1)) ∧ (decode cX12_sheet 47 = .ok (.getfield 66, 3)) ∧ (decode cX12_sheet 50 = .ok (.iload_n 1, 1)) ∧ (decode cX12_sheet 51 = .ok (.iload_n 2, 1)) := by decide +kernel
theorem m_1058 : Cond.fieldLink RX12 63 "InquiryBenchModel" "sorts" "[I" ∈ BW := iB_BW56 _ (List.mem_of_getElem? (i := 7) rfl)
theorem gf_X12_63 (hC : CX p s m meth c y0 b0 mL0 rt0 args) (hy0 : y0.cls = RX12) (hK : KK G s) (hP : va_P G.1 vwCl ws H) (q0 : Nat) {fs : List Value} {v : Value} (he : ws[q0]? = some (a, .inr (12, fs))) (hv : fs[28]? = some v) (hdg : decode b0 pc = .ok (.getfield 63, 3)) (kk : W p l e R s m args below meth c H locs cells slots Q (F0 m (pc + 3) ls (v :: rest))) : W p l e R s m args below meth c H locs cells slots Q (F0 m pc ls (.ref a :: rest)) := by
  obtain ⟨hx, hb, hr, hml, hB, hown, hlocks, hnm⟩ := hC
  rw [hy0] at hown
  exact va_get (ci := 12) (C := RX12) (T := TX12) (N := 41) hx hb hB in_X12 hown hK.1 hP q0 he rfl 28 (by decide) (hB _ m_1058) (fun _ h => h) hv hdg kk
theorem m_1059 : Cond.fieldLink RX12 66 "InquiryBenchModel" "sizes" "[I" ∈ BW := iB_BW56 _ (List.mem_of_getElem? (i := 8) rfl)
theorem gf_X12_66 (hC : CX p s m meth c y0 b0 mL0 rt0 args) (hy0 : y0.cls = RX12) (hK : KK G s) (hP : va_P G.1 vwCl ws H) (q0 : Nat) {fs : List Value} {v : Value} (he : ws[q0]? = some (a, .inr (12, fs))) (hv : fs[29]? = some v) (hdg : decode b0 pc = .ok (.getfield 66, 3)) (kk : W p l e R s m args below meth c H locs cells slots Q (F0 m (pc + 3) ls (v :: rest))) : W p l e R s m args below meth c H locs cells slots Q (F0 m pc ls (.ref a :: rest)) := by
  obtain ⟨hx, hb, hr, hml, hB, hown, hlocks, hnm⟩ := hC
  rw [hy0] at hown
  exact va_get (ci := 12) (C := RX12) (T := TX12) (N := 41) hx hb hB in_X12 hown hK.1 hP q0 he rfl 29 (by decide) (hB _ m_1059) (fun _ h => h) hv hdg kk
theorem gX12_sheet_3 : (decode cX12_sheet 52 = .ok (.ifCond .ge 7, 3)) ∧ (decode cX12_sheet 55 = .ok (.iconst 0, 1)) ∧ (decode cX12_sheet 56 = .ok (.goto 4, 3)) ∧ (decode cX12_sheet 59 = .ok (.iload_n 3, 1)) ∧ (decode cX12_sheet 60 = .ok (.iastore, 1)) ∧ (decode cX12_sheet 61 = .ok (.iconst 0, 1)) ∧ (decode cX12_sheet 62 = .ok (.istore 4, 2)) ∧ (decode cX12_sheet 64 = .ok (.iload 4, 2)) ∧ (decode cX12_sheet 66 = .ok (.bipush 40, 2)) ∧ (decode cX12_sheet 68 = .ok (.if_icmp .ge 22, 3)) := by decide +kernel
theorem gX12_sheet_5 : (decode cX12_sheet 87 = .ok (.goto (-23), 3)) ∧ (decode cX12_sheet 90 = .ok (.iconst 1, 1)) ∧ (decode cX12_sheet 91 = .ok (.ireturn, 1)) := by decide +kernel
theorem gX12_sheet_4 : (decode cX12_sheet 71 = .ok (.aload_n 0, 1)) ∧ (decode cX12_sheet 72 = .ok (.getfield 69, 3)) ∧ (decode cX12_sheet 75 = .ok (.bipush 40, 2)) ∧ (decode cX12_sheet 77 = .ok (.iload_n 1, 1)) ∧ (decode cX12_sheet 78 = .ok (.imul, 1)) ∧ (decode cX12_sheet 79 = .ok (.iload 4, 2)) ∧ (decode cX12_sheet 81 = .ok (.iadd, 1)) ∧ (decode cX12_sheet 82 = .ok (.iconst 0, 1)) ∧ (decode cX12_sheet 83 = .ok (.iastore, 1)) ∧ (decode cX12_sheet 84 = .ok (.iinc 4 1, 3)) := by decide +kernel
theorem m_1060 : Cond.fieldLink RX12 69 "InquiryBenchModel" "items" "[I" ∈ BW := iB_BW56 _ (List.mem_of_getElem? (i := 9) rfl)
theorem gf_X12_69 (hC : CX p s m meth c y0 b0 mL0 rt0 args) (hy0 : y0.cls = RX12) (hK : KK G s) (hP : va_P G.1 vwCl ws H) (q0 : Nat) {fs : List Value} {v : Value} (he : ws[q0]? = some (a, .inr (12, fs))) (hv : fs[30]? = some v) (hdg : decode b0 pc = .ok (.getfield 69, 3)) (kk : W p l e R s m args below meth c H locs cells slots Q (F0 m (pc + 3) ls (v :: rest))) : W p l e R s m args below meth c H locs cells slots Q (F0 m pc ls (.ref a :: rest)) := by
  obtain ⟨hx, hb, hr, hml, hB, hown, hlocks, hnm⟩ := hC
  rw [hy0] at hown
  exact va_get (ci := 12) (C := RX12) (T := TX12) (N := 41) hx hb hB in_X12 hown hK.1 hP q0 he rfl 30 (by decide) (hB _ m_1060) (fun _ h => h) hv hdg kk
end WR
def NTA (s z a x : Int32) : Prop := ¬ s < 0 ∧ s = a ∧ ¬ x < 0 ∧ ¬ z ≤ x
def NTB (s a : Int32) : Prop := ¬ s < 0 ∧ ¬ s = a
def NTC (s z a x : Int32) : Prop := ¬ s < 0 ∧ s = a ∧ (x < 0 ∨ z ≤ x)
/-- the sheets are held alike: the items where there is a sheet -/
def SHR (hs hz hi so si it : Nat → Int32) : Prop := ∀ t, t < 4 → hs t = so t ∧ hz t = si t ∧ Wi (so t) (-1) 4 ∧ (so t < 0 ∨ ∀ i, i < 40 → hi (t * 40 + i) = it (t * 40 + i))
theorem wi_m1 {x : Int32} (h : Wi x (-1) 4) (h2 : x < 0) : x = (-1) := by
  apply Int32.toInt_inj.mp
  have h1 := (Wi_iff.mp h).1
  rw [Int32.lt_iff_toInt_lt] at h2
  have e1 : (-1 : Int32).toInt = -1 := by decide
  have e0 : (0 : Int32).toInt = 0 := by decide
  omega
theorem SHR.sz {hs hz hi so si it : Nat → Int32} (h : SHR hs hz hi so si it) (hz9 : SZ si) : SZ hz := fun i h4 => by
  obtain ⟨k, hk, e⟩ := hz9 i h4
  exact ⟨k, hk, (h i h4).2.1.trans e⟩
theorem SHR.pa {hs hz hi so si it : Nat → Int32} {x1 x2 : Int32} (h : SHR hs hz hi so si it) : ifc (Wi x1 0 3) (ifc (hs x1.toNatClampNeg = (-1)) (-11) (ifc (Wi x2 0 (hz x1.toNatClampNeg - 1)) 1 (-12))) (-1) = ifc (Wi x1 0 3) (ifc (so x1.toNatClampNeg < 0) (-11) (ifc (Wi x2 0 (si x1.toNatClampNeg - 1)) 1 (-12))) (-1) := by
  by_cases c1 : Wi x1 0 3
  · obtain ⟨j, hj, rfl⟩ := Wi3 c1
    obtain ⟨f1, f2, f3, f4⟩ := h j hj
    rw [ifc_t c1, ifc_t c1, nI_clamp (n := j) (by omega), f1, f2]
    by_cases c3 : so j < 0
    · rw [ifc_t c3, ifc_t (wi_m1 f3 c3)]
    · rw [ifc_f c3, ifc_f (q := so j = (-1)) (fun h9 => c3 (by rw [h9]; decide))]
  · rw [ifc_f c1, ifc_f c1]
theorem SHR.put {hs hz hi so si it gi gt : Nat → Int32} {x1 x2 x3 : Int32} (h : SHR hs hz hi so si it) (hc : ∀ i : Nat, gi i = ifc (Wi x1 0 3) (ifc (hs x1.toNatClampNeg = (-1)) (hi i) (ifc (Wi x2 0 (hz x1.toNatClampNeg - 1)) (upd hi (x1.toNatClampNeg * 40 + x2.toNatClampNeg) (NARW (hs x1.toNatClampNeg) x3) i) (hi i))) (hi i)) (hm : ∀ i : Nat, gt i = ifc (Wi x1 0 3) (ifc (so x1.toNatClampNeg < 0) (it i) (ifc (Wi x2 0 (si x1.toNatClampNeg - 1)) (upd it (40 * x1.toNatClampNeg + x2.toNatClampNeg) (NARW (so x1.toNatClampNeg) x3) i) (it i))) (it i)) : SHR hs hz gi so si gt := by
  intro t ht
  obtain ⟨e1, e2, e3, e4⟩ := h t ht
  refine ⟨e1, e2, e3, ?_⟩
  rcases e4 with e4 | e4
  · exact Or.inl e4
  refine Or.inr (fun i hi9 => ?_)
  rw [hc, hm]
  by_cases c1 : Wi x1 0 3
  · obtain ⟨j, hj, rfl⟩ := Wi3 c1
    obtain ⟨f1, f2, f3, f4⟩ := h j hj
    rw [ifc_t c1, ifc_t c1, nI_clamp (n := j) (by omega), f1, f2]
    by_cases c3 : so j < 0
    · rw [ifc_t c3, ifc_t (wi_m1 f3 c3)]; exact e4 i hi9
    · rw [ifc_f c3, ifc_f (q := so j = (-1)) (fun h9 => c3 (by rw [h9]; decide))]
      by_cases c4 : Wi x2 0 (si j - 1)
      · rw [ifc_t c4, ifc_t c4, Nat.mul_comm 40 j]
        unfold upd
        by_cases c : t * 40 + i = j * 40 + x2.toNatClampNeg
        · rw [if_pos c, if_pos c]
        · rw [if_neg c, if_neg c]; exact e4 i hi9
      · rw [ifc_f c4, ifc_f c4]; exact e4 i hi9
  · rw [ifc_f c1, ifc_f c1]; exact e4 i hi9
theorem SHR.it {hs hz hi so si it : Nat → Int32} {x1 x2 x3 : Int32} (h : SHR hs hz hi so si it) (hz9 : SZ si) : ifc (Wi x1 0 3) (ifc (Wi x2 0 4) (ifc (hs x1.toNatClampNeg = (-1)) (-11) (ifc (hs x1.toNatClampNeg = x2) (ifc (Wi x3 0 (hz x1.toNatClampNeg - 1)) (hi (x1.toNatClampNeg * 40 + x3.toNatClampNeg)) (-12)) (-13))) (-1)) (-1) = ifc (Wi x1 0 3) (ifc (Wi x2 0 4) (ifc (so x1.toNatClampNeg < 0) (-11) (ifc (so x1.toNatClampNeg = x2) (ifc (x3 < 0 ∨ si x1.toNatClampNeg ≤ x3) (-12) (it (40 * x1.toNatClampNeg + x3.toNatClampNeg))) (-13))) (-1)) (-1) := by
  by_cases c1 : Wi x1 0 3
  · obtain ⟨j, hj, rfl⟩ := Wi3 c1
    obtain ⟨f1, f2, f3, f4⟩ := h j hj
    obtain ⟨k, hk, ek⟩ := hz9 j hj
    rw [ifc_t c1, ifc_t c1, nI_clamp (n := j) (by omega), f1, f2]
    by_cases c2 : Wi x2 0 4
    · rw [ifc_t c2, ifc_t c2]
      by_cases c3 : so j < 0
      · rw [ifc_t c3, ifc_t (wi_m1 f3 c3)]
      · rw [ifc_f c3, ifc_f (q := so j = (-1)) (fun h9 => c3 (by rw [h9]; decide))]
        by_cases c4 : so j = x2
        · rw [ifc_t c4, ifc_t c4, ek]
          by_cases c5 : Wi x3 0 (nI k - 1)
          · have c6 := (WiHc (by omega)).mp c5
            rw [ifc_t c5, ifc_f (q := x3 < 0 ∨ nI k ≤ x3) (fun h9 => h9.elim c6.1 c6.2)]
            obtain ⟨i, hi9, rfl⟩ := Hs_nat (by omega) c6
            rw [nI_clamp (n := i) (by omega), Nat.mul_comm 40 j]
            rcases f4 with f4 | f4
            · exact absurd f4 c3
            · exact f4 i (by omega)
          · rw [ifc_f c5, ifc_t (q := x3 < 0 ∨ nI k ≤ x3) (Classical.byContradiction fun h9 => c5 ((WiHc (by omega)).mpr ⟨fun h8 => h9 (Or.inl h8), fun h8 => h9 (Or.inr h8)⟩))]
        · rw [ifc_f c4, ifc_f c4]
    · rw [ifc_f c2, ifc_f c2]
  · rw [ifc_f c1, ifc_f c1]
theorem SHR.sh {hs hz hi so si it gs gz gi ks kz kt : Nat → Int32} {x1 x2 x3 : Int32} (h : SHR hs hz hi so si it)
    (hc : (S0 x1 x2 → gs = upd hs x1.toNatClampNeg x2 ∧ gz = upd hz x1.toNatClampNeg 0 ∧ ZQ hi gi x1.toNatClampNeg) ∧ (S1 x1 x2 x3 → gs = upd hs x1.toNatClampNeg x2 ∧ gz = upd hz x1.toNatClampNeg x3 ∧ ZR hi gi x1.toNatClampNeg 40) ∧ (¬ S0 x1 x2 → ¬ S1 x1 x2 x3 → gs = hs ∧ gz = hz ∧ gi = hi))
    (hm : (S0 x1 x2 → ks = upd so x1.toNatClampNeg x2 ∧ kz = upd si x1.toNatClampNeg 0 ∧ ZQ it kt x1.toNatClampNeg) ∧ (S1 x1 x2 x3 → ks = upd so x1.toNatClampNeg x2 ∧ kz = upd si x1.toNatClampNeg x3 ∧ ZR it kt x1.toNatClampNeg 40) ∧ (¬ S0 x1 x2 → ¬ S1 x1 x2 x3 → ks = so ∧ kz = si ∧ kt = it)) : SHR gs gz gi ks kz kt := by
  by_cases c0 : S0 x1 x2
  · obtain ⟨a1, a2, a3⟩ := hc.1 c0
    obtain ⟨b1, b2, b3⟩ := hm.1 c0
    subst a1 a2 b1 b2
    intro t ht
    obtain ⟨e1, e2, e3, e4⟩ := h t ht
    unfold upd
    by_cases c : t = x1.toNatClampNeg
    · rw [if_pos c, if_pos c, if_pos c, if_pos c]
      exact ⟨rfl, rfl, c0.2.1, Or.inl c0.2.2⟩
    · rw [if_neg c, if_neg c, if_neg c, if_neg c]
      refine ⟨e1, e2, e3, ?_⟩
      rcases e4 with e4 | e4
      · exact Or.inl e4
      · refine Or.inr (fun i hi9 => ?_)
        rw [a3 _ (by omega), b3 _ (by omega)]
        exact e4 i hi9
  · by_cases c1 : S1 x1 x2 x3
    · obtain ⟨a1, a2, a3⟩ := hc.2.1 c1
      obtain ⟨b1, b2, b3⟩ := hm.2.1 c1
      subst a1 a2 b1 b2
      intro t ht
      obtain ⟨e1, e2, e3, e4⟩ := h t ht
      unfold upd
      by_cases c : t = x1.toNatClampNeg
      · rw [if_pos c, if_pos c, if_pos c, if_pos c]
        refine ⟨rfl, rfl, c1.2.1, Or.inr (fun i hi9 => ?_)⟩
        rw [a3, b3, if_pos (by omega), if_pos (by omega)]
      · rw [if_neg c, if_neg c, if_neg c, if_neg c]
        refine ⟨e1, e2, e3, ?_⟩
        rcases e4 with e4 | e4
        · exact Or.inl e4
        · refine Or.inr (fun i hi9 => ?_)
          rw [a3, b3, if_neg (by omega), if_neg (by omega)]
          exact e4 i hi9
    · obtain ⟨a1, a2, a3⟩ := hc.2.2 c0 c1
      obtain ⟨b1, b2, b3⟩ := hm.2.2 c0 c1
      subst a1 a2 a3 b1 b2 b3
      exact h
section WR
variable {p : Program} {l : Launch} {e : Env} {R : Room} {s : State} {m : MethodId} {args : Array Value} {below : List Frame} {meth : Method} {c : Code} {H : Heap} {locs : List Loc} {cells slots : Nat} {Q : State → Prop}
variable {pc : Nat} {ls : Array Slot} {rest : List Value} {G : GG} {ws : va_W} {A : Nat → Prop} {y0 : MethodName} {b0 : ByteArray} {mL0 : Nat} {rt0 : Option FieldType} {a : Nat} {H0 : Heap}
theorem gX12_put_0 : (decode cX12_put 0 = .ok (.iload_n 1, 1)) ∧ (decode cX12_put 1 = .ok (.invokestatic 336, 3)) ∧ (decode cX12_put 4 = .ok (.ifCond .ne 5, 3)) ∧ (decode cX12_put 7 = .ok (.iconst (-1), 1)) ∧ (decode cX12_put 8 = .ok (.ireturn, 1)) ∧ (decode cX12_put 9 = .ok (.aload_n 0, 1)) ∧ (decode cX12_put 10 = .ok (.getfield 63, 3)) ∧ (decode cX12_put 13 = .ok (.iload_n 1, 1)) ∧ (decode cX12_put 14 = .ok (.iaload, 1)) ∧ (decode cX12_put 15 = .ok (.ifCond .ge 6, 3)) := by decide +kernel
theorem gX12_put_1 : (decode cX12_put 18 = .ok (.bipush (-11), 2)) ∧ (decode cX12_put 20 = .ok (.ireturn, 1)) ∧ (decode cX12_put 21 = .ok (.iload_n 2, 1)) ∧ (decode cX12_put 22 = .ok (.iconst 0, 1)) ∧ (decode cX12_put 23 = .ok (.aload_n 0, 1)) ∧ (decode cX12_put 24 = .ok (.getfield 66, 3)) ∧ (decode cX12_put 27 = .ok (.iload_n 1, 1)) ∧ (decode cX12_put 28 = .ok (.iaload, 1)) ∧ (decode cX12_put 29 = .ok (.iconst 1, 1)) ∧ (decode cX12_put 30 = .ok (.isub, 1)) := by decide +kernel
theorem gX12_put_2 : (decode cX12_put 31 = .ok (.invokestatic 84, 3)) ∧ (decode cX12_put 34 = .ok (.ifCond .ne 6, 3)) ∧ (decode cX12_put 37 = .ok (.bipush (-12), 2)) ∧ (decode cX12_put 39 = .ok (.ireturn, 1)) ∧ (decode cX12_put 40 = .ok (.aload_n 0, 1)) ∧ (decode cX12_put 41 = .ok (.getfield 69, 3)) ∧ (decode cX12_put 44 = .ok (.bipush 40, 2)) ∧ (decode cX12_put 46 = .ok (.iload_n 1, 1)) ∧ (decode cX12_put 47 = .ok (.imul, 1)) ∧ (decode cX12_put 48 = .ok (.iload_n 2, 1)) := by decide +kernel
theorem gX12_put_3 : (decode cX12_put 49 = .ok (.iadd, 1)) ∧ (decode cX12_put 50 = .ok (.aload_n 0, 1)) ∧ (decode cX12_put 51 = .ok (.getfield 63, 3)) ∧ (decode cX12_put 54 = .ok (.iload_n 1, 1)) ∧ (decode cX12_put 55 = .ok (.iaload, 1)) ∧ (decode cX12_put 56 = .ok (.ifCond .ne 8, 3)) ∧ (decode cX12_put 59 = .ok (.iload_n 3, 1)) ∧ (decode cX12_put 60 = .ok (.i2b, 1)) ∧ (decode cX12_put 61 = .ok (.goto 41, 3)) ∧ (decode cX12_put 64 = .ok (.aload_n 0, 1)) := by decide +kernel
theorem gX12_put_4 : (decode cX12_put 65 = .ok (.getfield 63, 3)) ∧ (decode cX12_put 68 = .ok (.iload_n 1, 1)) ∧ (decode cX12_put 69 = .ok (.iaload, 1)) ∧ (decode cX12_put 70 = .ok (.iconst 1, 1)) ∧ (decode cX12_put 71 = .ok (.if_icmp .ne 8, 3)) ∧ (decode cX12_put 74 = .ok (.iload_n 3, 1)) ∧ (decode cX12_put 75 = .ok (.i2s, 1)) ∧ (decode cX12_put 76 = .ok (.goto 26, 3)) ∧ (decode cX12_put 79 = .ok (.aload_n 0, 1)) ∧ (decode cX12_put 80 = .ok (.getfield 63, 3)) := by decide +kernel
theorem gX12_put_5 : (decode cX12_put 83 = .ok (.iload_n 1, 1)) ∧ (decode cX12_put 84 = .ok (.iaload, 1)) ∧ (decode cX12_put 85 = .ok (.iconst 4, 1)) ∧ (decode cX12_put 86 = .ok (.if_icmp .ne 15, 3)) ∧ (decode cX12_put 89 = .ok (.iload_n 3, 1)) ∧ (decode cX12_put 90 = .ok (.ifCond .eq 7, 3)) ∧ (decode cX12_put 93 = .ok (.iconst 1, 1)) ∧ (decode cX12_put 94 = .ok (.goto 8, 3)) ∧ (decode cX12_put 97 = .ok (.iconst 0, 1)) ∧ (decode cX12_put 98 = .ok (.goto 4, 3)) := by decide +kernel
theorem gX12_put_6 : (decode cX12_put 101 = .ok (.iload_n 3, 1)) ∧ (decode cX12_put 102 = .ok (.iastore, 1)) ∧ (decode cX12_put 103 = .ok (.iconst 1, 1)) ∧ (decode cX12_put 104 = .ok (.ireturn, 1)) := by decide +kernel
theorem gX12_notThere_0 : (decode cX12_notThere 0 = .ok (.aload_n 0, 1)) ∧ (decode cX12_notThere 1 = .ok (.getfield 63, 3)) ∧ (decode cX12_notThere 4 = .ok (.iload_n 1, 1)) ∧ (decode cX12_notThere 5 = .ok (.iaload, 1)) ∧ (decode cX12_notThere 6 = .ok (.ifCond .ge 8, 3)) ∧ (decode cX12_notThere 9 = .ok (.bipush (-11), 2)) ∧ (decode cX12_notThere 11 = .ok (.goto 45, 3)) ∧ (decode cX12_notThere 14 = .ok (.aload_n 0, 1)) ∧ (decode cX12_notThere 15 = .ok (.getfield 63, 3)) ∧ (decode cX12_notThere 18 = .ok (.iload_n 1, 1)) := by decide +kernel
theorem gX12_notThere_1 : (decode cX12_notThere 19 = .ok (.iaload, 1)) ∧ (decode cX12_notThere 20 = .ok (.iload_n 2, 1)) ∧ (decode cX12_notThere 21 = .ok (.if_icmp .eq 8, 3)) ∧ (decode cX12_notThere 24 = .ok (.bipush (-13), 2)) ∧ (decode cX12_notThere 26 = .ok (.goto 30, 3)) ∧ (decode cX12_notThere 29 = .ok (.iload_n 3, 1)) ∧ (decode cX12_notThere 30 = .ok (.ifCond .lt 20, 3)) ∧ (decode cX12_notThere 33 = .ok (.iload 4, 2)) ∧ (decode cX12_notThere 35 = .ok (.aload_n 0, 1)) ∧ (decode cX12_notThere 36 = .ok (.getfield 66, 3)) := by decide +kernel
theorem gX12_notThere_2 : (decode cX12_notThere 39 = .ok (.iload_n 1, 1)) ∧ (decode cX12_notThere 40 = .ok (.iaload, 1)) ∧ (decode cX12_notThere 41 = .ok (.if_icmp .ge 9, 3)) ∧ (decode cX12_notThere 44 = .ok (.iload 4, 2)) ∧ (decode cX12_notThere 46 = .ok (.iload_n 3, 1)) ∧ (decode cX12_notThere 47 = .ok (.if_icmp .ge 8, 3)) ∧ (decode cX12_notThere 50 = .ok (.bipush (-12), 2)) ∧ (decode cX12_notThere 52 = .ok (.goto 4, 3)) ∧ (decode cX12_notThere 55 = .ok (.iconst 0, 1)) ∧ (decode cX12_notThere 56 = .ok (.ireturn, 1)) := by decide +kernel
theorem gX12_item_0 : (decode cX12_item 0 = .ok (.iload_n 1, 1)) ∧ (decode cX12_item 1 = .ok (.invokestatic 336, 3)) ∧ (decode cX12_item 4 = .ok (.ifCond .eq 12, 3)) ∧ (decode cX12_item 7 = .ok (.iload_n 2, 1)) ∧ (decode cX12_item 8 = .ok (.iconst 0, 1)) ∧ (decode cX12_item 9 = .ok (.iconst 4, 1)) ∧ (decode cX12_item 10 = .ok (.invokestatic 84, 3)) ∧ (decode cX12_item 13 = .ok (.ifCond .ne 5, 3)) ∧ (decode cX12_item 16 = .ok (.iconst (-1), 1)) ∧ (decode cX12_item 17 = .ok (.ireturn, 1)) := by decide +kernel
theorem gX12_item_1 : (decode cX12_item 18 = .ok (.aload_n 0, 1)) ∧ (decode cX12_item 19 = .ok (.iload_n 1, 1)) ∧ (decode cX12_item 20 = .ok (.iload_n 2, 1)) ∧ (decode cX12_item 21 = .ok (.iload_n 3, 1)) ∧ (decode cX12_item 22 = .ok (.iload_n 3, 1)) ∧ (decode cX12_item 23 = .ok (.invokevirtual 339, 3)) ∧ (decode cX12_item 26 = .ok (.istore 4, 2)) ∧ (decode cX12_item 28 = .ok (.iload 4, 2)) ∧ (decode cX12_item 30 = .ok (.ifCond .eq 8, 3)) ∧ (decode cX12_item 33 = .ok (.iload 4, 2)) := by decide +kernel
theorem m_1371 : Cond.code yX12_notThere cX12_notThere 5 (some .int) ∈ BW := iB_BW73 _ (List.mem_of_getElem? (i := 7) rfl)
theorem m_1369 : Cond.methodLink RX12 339 yX12_notThere ∈ BW := iB_BW73 _ (List.mem_of_getElem? (i := 5) rfl)
theorem m_1370 : Cond.instanceMethod yX12_notThere ∈ BW := iB_BW73 _ (List.mem_of_getElem? (i := 6) rfl)
theorem m_96 : Cond.selects RX12 yX12_notThere yX12_notThere ∈ BW := iB_BW4 _ (List.mem_of_getElem? (i := 16) rfl)
theorem si_X12_339 : SV RX12 RX12 339 yX12_notThere cX12_notThere 5 (some .int) 4 := ⟨⟨m_1369, m_1370, m_96, m_115, m_1371⟩, rfl, nK_RX12.1, nK_RX12.2, pd_17⟩
theorem gX12_item_2 : (decode cX12_item 35 = .ok (.goto 14, 3)) ∧ (decode cX12_item 38 = .ok (.aload_n 0, 1)) ∧ (decode cX12_item 39 = .ok (.getfield 69, 3)) ∧ (decode cX12_item 42 = .ok (.bipush 40, 2)) ∧ (decode cX12_item 44 = .ok (.iload_n 1, 1)) ∧ (decode cX12_item 45 = .ok (.imul, 1)) ∧ (decode cX12_item 46 = .ok (.iload_n 3, 1)) ∧ (decode cX12_item 47 = .ok (.iadd, 1)) ∧ (decode cX12_item 48 = .ok (.iaload, 1)) ∧ (decode cX12_item 49 = .ok (.ireturn, 1)) := by decide +kernel
end WR
/-- while good, the numbers so far are stamps -/
def GX (g : Nat → Int32) (b c n : Nat) (gd : Int32) : Prop := (gd = 0 ∧ ¬ ALS g b c n) ∨ (gd = 1 ∧ ALS g b c n)
theorem GX.zero {g : Nat → Int32} {b c : Nat} : GX g b c 0 1 := Or.inr ⟨rfl, ALS.zero⟩
theorem GX.f {g : Nat → Int32} {b c n : Nat} {gd : Int32} (h : GX g b c n gd) (e : gd = 0) : ¬ ALS g b c n := by
  rcases h with h | h
  · exact h.2
  · exact absurd (e.symm.trans h.1) (by decide)
theorem GX.t {g : Nat → Int32} {b c n : Nat} {gd : Int32} (h : GX g b c n gd) (e : ¬ gd = 0) : ALS g b c n := by
  rcases h with h | h
  · exact absurd h.1 e
  · exact h.2
theorem GX.z {g : Nat → Int32} {b c n : Nat} {gd : Int32} (h : GX g b c n gd) (e : gd = 0) : GX g b c (n + 1) 0 := Or.inl ⟨rfl, fun h9 => h.f e (fun k hk => h9 k (by omega))⟩
theorem GX.a {g : Nat → Int32} {b c n : Nat} {x : Int32} (e : x = g (b + (c + 2 * n))) (a : ¬ Wi x 0 5) : GX g b c (n + 1) 0 := Or.inl ⟨rfl, fun h9 => a (by rw [e]; exact (h9 n (by omega)).1)⟩
theorem GX.b {g : Nat → Int32} {b c n : Nat} {y : Int32} (e : y = g (b + (c + 2 * n + 1))) (a : ¬ Wi y 0 999) : GX g b c (n + 1) 0 := Or.inl ⟨rfl, fun h9 => a (by rw [e]; exact (h9 n (by omega)).2)⟩
theorem GX.n {g : Nat → Int32} {b c n : Nat} {gd x y : Int32} (h : GX g b c n gd) (hc : ¬ gd = 0) (e1 : x = g (b + (c + 2 * n))) (e2 : y = g (b + (c + 2 * n + 1))) (a1 : Wi x 0 5) (a2 : Wi y 0 999) : GX g b c (n + 1) 1 := Or.inr ⟨rfl, ALS.next (h.t hc) ⟨by rw [← e1]; exact a1, by rw [← e2]; exact a2⟩⟩
theorem APS.step {v f g : Nat → Int32} {k b c n : Nat} {pa x y : Int32} (h : ∀ j, j < 72 → v (104 + j) = APS f k pa g b c n j) (e1 : x = g (b + (c + 2 * n))) (e2 : y = g (b + (c + 2 * n + 1))) : ∀ i, i < 72 → rowu (shf v 104) ((k + n) * 3) [pa, x, y] i = APS f k pa g b c (n + 1) i := by
  intro i hi
  subst e1 e2
  exact rowu_congr (f := shf v 104) (g := APS f k pa g b c n) (n := 72) _ h i hi
theorem st_out {ji jn k : Nat} (hj : ji < 2 ^ 31) (hn : jn ≤ 9) (hk : k ≤ 40) (h : ¬ lg_cmp ((nI ji).toInt64 + 2 * (nI jn).toInt64) (nI k).toInt64 ≤ 0) : k < ji + 2 * jn := by
  have h9 : (nI k).toInt64 < (nI ji).toInt64 + 2 * (nI jn).toInt64 := by
    unfold lg_cmp at h
    by_cases c : (nI ji).toInt64 + 2 * (nI jn).toInt64 > (nI k).toInt64
    · exact c
    · rw [if_neg c] at h
      exact absurd (by split <;> decide) h
  have e2 : (2 : Int64).toInt = 2 := by decide
  rw [Int64.lt_iff_toInt_lt, Int64.toInt_add, Int64.toInt_mul, l_ti (by omega), l_ti (by omega), l_ti (by omega), e2, bmod64 (x := 2 * (jn : Int)) (by omega) (by omega), bmod64 (by omega) (by omega)] at h9
  omega
/-- the same rows behind, by sheets held alike -/
theorem APS.cg {f f2 g g2 : Nat → Int32} {k b c m : Nat} {pa : Int32} (hf : ∀ i, i < m → f i = f2 i) : ∀ n, (∀ i, i < 2 * n → g (b + (c + i)) = g2 (b + (c + i))) → ∀ i, i < m → APS f k pa g b c n i = APS f2 k pa g2 b c n i
  | 0, _ => hf
  | n + 1, h => fun i hi => by
    show rowu _ _ [pa, g (b + (c + 2 * n)), g (b + (c + (2 * n + 1)))] i = rowu _ _ [pa, g2 (b + (c + 2 * n)), g2 (b + (c + (2 * n + 1)))] i
    rw [h (2 * n) (by omega), h (2 * n + 1) (by omega)]
    exact rowu_congr (n := m) _ (APS.cg hf n (fun i hi => h i (by omega))) i hi
theorem ALS.cg {g g2 : Nat → Int32} {b c n : Nat} (h : ∀ i, i < 2 * n → g (b + (c + i)) = g2 (b + (c + i))) : ALS g b c n ↔ ALS g2 b c n := by
  constructor
  · intro a k hk
    have h1 := h (2 * k) (by omega)
    have h2 := h (2 * k + 1) (by omega)
    exact ⟨by rw [← h1]; exact (a k hk).1, by have h3 := (a k hk).2; rw [show c + 2 * k + 1 = c + (2 * k + 1) from rfl] at h3 ⊢; rw [← h2]; exact h3⟩
  · intro a k hk
    have h1 := h (2 * k) (by omega)
    have h2 := h (2 * k + 1) (by omega)
    exact ⟨by rw [h1]; exact (a k hk).1, by have h3 := (a k hk).2; rw [show c + 2 * k + 1 = c + (2 * k + 1) from rfl] at h3 ⊢; rw [h2]; exact h3⟩
theorem SHR.ok {hs hz hi so si it : Nat → Int32} (h : SHR hs hz hi so si it) : SOK hs := fun t ht => by rw [(h t ht).1]; exact (h t ht).2.2.1
/-- stamps answers alike -/
theorem STA.cg {hs hz hi so si it : Nat → Int32} {x1 x2 x3 x4 : Int32} {kp kst : Nat} (h : SHR hs hz hi so si it) (hz9 : SZ si) : STA x1 x2 x3 x4 kp kst hs hz hi = STA x1 x2 x3 x4 kp kst so si it := by
  unfold STA
  by_cases c1 : Hs x1 kp
  · rw [ifc_t c1, ifc_t c1]
    by_cases c2 : Wi x2 0 3
    · obtain ⟨j, hj, rfl⟩ := Wi3 c2
      rw [ifc_t c2, ifc_t c2, nI_clamp (n := j) (by omega)]
      obtain ⟨f1, f2, f3, f4⟩ := h j hj
      obtain ⟨k, hk, ek⟩ := hz9 j hj
      by_cases c3 : Wi x4 0 9
      · obtain ⟨n, hn, rfl⟩ := Wi_nat (N := 9) (by decide) c3
        rw [ifc_t c3, ifc_t c3, nI_clamp (n := n) (by omega), f1, f2]
        by_cases c4 : so j < 0
        · rw [ifc_t c4, ifc_t c4]
        · rw [ifc_f c4, ifc_f c4]
          by_cases c5 : so j = 1
          · rw [ifc_t c5, ifc_t c5]
            by_cases c6 : OUTS x3 (si j) (nI n)
            · rw [ifc_t c6, ifc_t c6]
            · rw [ifc_f c6, ifc_f c6]
              obtain ⟨i, hi9, rfl⟩ := nI_of (fun h9 => c6 (Or.inl h9))
              have hq : i + 2 * n ≤ k := Classical.byContradiction fun h9 => c6 (by
                refine Or.inr ?_
                rw [ek, nI_toInt (n := k) (by omega), nI_toInt (n := i) hi9, nI_toInt (n := n) (by omega)]
                omega)
              rw [nI_clamp (n := i) hi9]
              rcases f4 with f4 | f4
              · exact absurd f4 c4
              have hA : ALS hi (j * 40) i n ↔ ALS it (j * 40) i n := ALS.cg (fun q hq9 => f4 (i + q) (by omega))
              by_cases c7 : ALS it (j * 40) i n
              · rw [ifc_t c7, ifc_t (hA.mpr c7)]
              · rw [ifc_f c7, ifc_f (fun h9 => c7 (hA.mp h9))]
          · rw [ifc_f c5, ifc_f c5]
      · rw [ifc_f c3, ifc_f c3]
    · rw [ifc_f c2, ifc_f c2]
  · rw [ifc_f c1, ifc_f c1]
/-- where stamps doesn't refuse -/
theorem STA.ok {so si it : Nat → Int32} {x1 x2 x3 x4 : Int32} {kp kst : Nat} (h : ¬ STA x1 x2 x3 x4 kp kst so si it < 0) : ∃ j i n, j < 4 ∧ x2 = nI j ∧ i < 2 ^ 31 ∧ x3 = nI i ∧ n ≤ 9 ∧ x4 = nI n ∧ ¬ so j < 0 ∧ ¬ OUTS x3 (si j) x4 := by
  have no : ∀ {q : Prop} {a b : Int32}, b < 0 → ¬ ifc q a b < 0 → q ∧ ¬ a < 0 := fun {q a b} hb h9 => by
    by_cases c : q
    · rw [ifc_t c] at h9; exact ⟨c, h9⟩
    · rw [ifc_f c] at h9; exact absurd hb h9
  have ny : ∀ {q : Prop} {a b : Int32}, a < 0 → ¬ ifc q a b < 0 → ¬ q ∧ ¬ b < 0 := fun {q a b} hb h9 => by
    by_cases c : q
    · rw [ifc_t c] at h9; exact absurd hb h9
    · rw [ifc_f c] at h9; exact ⟨c, h9⟩
  unfold STA at h
  obtain ⟨h1, h⟩ := no (by decide) h
  obtain ⟨h2, h⟩ := no (by decide) h
  obtain ⟨h3, h⟩ := no (by decide) h
  obtain ⟨h4, h⟩ := ny (by decide) h
  obtain ⟨h5, h⟩ := no (by decide) h
  obtain ⟨h6, h⟩ := ny (by decide) h
  obtain ⟨j, hj, rfl⟩ := Wi3 h2
  rw [nI_clamp (n := j) (by omega)] at h4 h6
  obtain ⟨n, hn, rfl⟩ := Wi_nat (N := 9) (by decide) h3
  obtain ⟨i, hi9, e⟩ := nI_of (fun h9 => h6 (Or.inl h9))
  exact ⟨j, i, n, hj, rfl, hi9, e, hn, rfl, h4, h6⟩
theorem STA.tab {f f2 hs hz hi so si it : Nat → Int32} {x1 x2 x3 x4 : Int32} {kp kst : Nat} (h : SHR hs hz hi so si it) (hz9 : SZ si) (hf : ∀ i, i < 72 → f i = f2 i) (i : Nat) (hi9 : i < 72) : ifc (STA x1 x2 x3 x4 kp kst so si it < 0) (f i) (APS f kst x1 it (x2.toNatClampNeg * 40) x3.toNatClampNeg x4.toNatClampNeg i) = ifc (STA x1 x2 x3 x4 kp kst hs hz hi < 0) (f2 i) (APS f2 kst x1 hi (x2.toNatClampNeg * 40) x3.toNatClampNeg x4.toNatClampNeg i) := by
  rw [STA.cg h hz9]
  by_cases c : STA x1 x2 x3 x4 kp kst so si it < 0
  · rw [ifc_t c, ifc_t c]; exact hf i hi9
  · rw [ifc_f c, ifc_f c]
    obtain ⟨j, a, n, hj, rfl, ha, rfl, hn, rfl, h4, h6⟩ := STA.ok c
    obtain ⟨k, hk, ek⟩ := hz9 j hj
    have hq : a + 2 * n ≤ k := Classical.byContradiction fun h9 => h6 (by
      refine Or.inr ?_
      rw [ek, nI_toInt (n := k) (by omega), nI_toInt (n := a) ha, nI_toInt (n := n) (by omega)]
      omega)
    rw [nI_clamp (n := j) (by omega), nI_clamp (n := a) ha, nI_clamp (n := n) (by omega)]
    obtain ⟨-, -, -, f4⟩ := h j hj
    rcases f4 with f4 | f4
    · exact absurd f4 h4
    · exact APS.cg hf n (fun q hq9 => (f4 (a + q) (by omega)).symm) i hi9
section WR
variable {p : Program} {l : Launch} {e : Env} {R : Room} {s : State} {m : MethodId} {args : Array Value} {below : List Frame} {meth : Method} {c : Code} {H : Heap} {locs : List Loc} {cells slots : Nat} {Q : State → Prop}
variable {pc : Nat} {ls : Array Slot} {rest : List Value} {G : GG} {ws : va_W} {A : Nat → Prop} {y0 : MethodName} {b0 : ByteArray} {mL0 : Nat} {rt0 : Option FieldType} {a : Nat} {H0 : Heap}
theorem gX12_stamps_0 : (decode cX12_stamps 0 = .ok (.aload_n 0, 1)) ∧ (decode cX12_stamps 1 = .ok (.iload_n 1, 1)) ∧ (decode cX12_stamps 2 = .ok (.iconst 5, 1)) ∧ (decode cX12_stamps 3 = .ok (.invokevirtual 120, 3)) ∧ (decode cX12_stamps 6 = .ok (.ifCond .eq 21, 3)) ∧ (decode cX12_stamps 9 = .ok (.iload_n 2, 1)) ∧ (decode cX12_stamps 10 = .ok (.invokestatic 336, 3)) ∧ (decode cX12_stamps 13 = .ok (.ifCond .eq 14, 3)) ∧ (decode cX12_stamps 16 = .ok (.iload 4, 2)) ∧ (decode cX12_stamps 18 = .ok (.iconst 0, 1)) := by decide +kernel
theorem gX12_stamps_1 : (decode cX12_stamps 19 = .ok (.bipush 9, 2)) ∧ (decode cX12_stamps 21 = .ok (.invokestatic 84, 3)) ∧ (decode cX12_stamps 24 = .ok (.ifCond .ne 5, 3)) ∧ (decode cX12_stamps 27 = .ok (.iconst (-1), 1)) ∧ (decode cX12_stamps 28 = .ok (.ireturn, 1)) ∧ (decode cX12_stamps 29 = .ok (.aload_n 0, 1)) ∧ (decode cX12_stamps 30 = .ok (.getfield 63, 3)) ∧ (decode cX12_stamps 33 = .ok (.iload_n 2, 1)) ∧ (decode cX12_stamps 34 = .ok (.iaload, 1)) ∧ (decode cX12_stamps 35 = .ok (.ifCond .ge 8, 3)) := by decide +kernel
theorem gX12_stamps_2 : (decode cX12_stamps 38 = .ok (.bipush (-11), 2)) ∧ (decode cX12_stamps 40 = .ok (.goto 49, 3)) ∧ (decode cX12_stamps 43 = .ok (.aload_n 0, 1)) ∧ (decode cX12_stamps 44 = .ok (.getfield 63, 3)) ∧ (decode cX12_stamps 47 = .ok (.iload_n 2, 1)) ∧ (decode cX12_stamps 48 = .ok (.iaload, 1)) ∧ (decode cX12_stamps 49 = .ok (.iconst 1, 1)) ∧ (decode cX12_stamps 50 = .ok (.if_icmp .eq 8, 3)) ∧ (decode cX12_stamps 53 = .ok (.bipush (-13), 2)) ∧ (decode cX12_stamps 55 = .ok (.goto 34, 3)) := by decide +kernel
theorem gX12_stamps_3 : (decode cX12_stamps 58 = .ok (.iload_n 3, 1)) ∧ (decode cX12_stamps 59 = .ok (.ifCond .lt 24, 3)) ∧ (decode cX12_stamps 62 = .ok (.iload_n 3, 1)) ∧ (decode cX12_stamps 63 = .ok (.i2l, 1)) ∧ (decode cX12_stamps 64 = .ok (.ldc2_w 343, 3)) ∧ (decode cX12_stamps 67 = .ok (.iload 4, 2)) ∧ (decode cX12_stamps 69 = .ok (.i2l, 1)) ∧ (decode cX12_stamps 70 = .ok (.lmul, 1)) ∧ (decode cX12_stamps 71 = .ok (.ladd, 1)) ∧ (decode cX12_stamps 72 = .ok (.aload_n 0, 1)) := by decide +kernel
theorem gX12_stamps_4 : (decode cX12_stamps 73 = .ok (.getfield 66, 3)) ∧ (decode cX12_stamps 76 = .ok (.iload_n 2, 1)) ∧ (decode cX12_stamps 77 = .ok (.iaload, 1)) ∧ (decode cX12_stamps 78 = .ok (.i2l, 1)) ∧ (decode cX12_stamps 79 = .ok (.lcmp, 1)) ∧ (decode cX12_stamps 80 = .ok (.ifCond .le 8, 3)) ∧ (decode cX12_stamps 83 = .ok (.bipush (-12), 2)) ∧ (decode cX12_stamps 85 = .ok (.goto 4, 3)) ∧ (decode cX12_stamps 88 = .ok (.iconst 0, 1)) ∧ (decode cX12_stamps 89 = .ok (.istore 5, 2)) := by decide +kernel
theorem gX12_stamps_5 : (decode cX12_stamps 91 = .ok (.iload 5, 2)) ∧ (decode cX12_stamps 93 = .ok (.ifCond .eq 6, 3)) ∧ (decode cX12_stamps 96 = .ok (.iload 5, 2)) ∧ (decode cX12_stamps 98 = .ok (.ireturn, 1)) ∧ (decode cX12_stamps 99 = .ok (.bipush 40, 2)) ∧ (decode cX12_stamps 101 = .ok (.iload_n 2, 1)) ∧ (decode cX12_stamps 102 = .ok (.imul, 1)) ∧ (decode cX12_stamps 103 = .ok (.iload_n 3, 1)) ∧ (decode cX12_stamps 104 = .ok (.iadd, 1)) ∧ (decode cX12_stamps 105 = .ok (.istore 6, 2)) := by decide +kernel
theorem m_1376 : Cond.constantLong RX12 343 (2) ∈ BW := iB_BW73 _ (List.mem_of_getElem? (i := 12) rfl)
theorem gX12_stamps_6 : (decode cX12_stamps 107 = .ok (.iconst 1, 1)) ∧ (decode cX12_stamps 108 = .ok (.istore 7, 2)) ∧ (decode cX12_stamps 110 = .ok (.iconst 0, 1)) ∧ (decode cX12_stamps 111 = .ok (.istore 8, 2)) ∧ (decode cX12_stamps 113 = .ok (.iload 8, 2)) ∧ (decode cX12_stamps 115 = .ok (.iload 4, 2)) ∧ (decode cX12_stamps 117 = .ok (.if_icmp .ge 65, 3)) ∧ (decode cX12_stamps 120 = .ok (.iload 7, 2)) ∧ (decode cX12_stamps 122 = .ok (.ifCond .eq 51, 3)) ∧ (decode cX12_stamps 125 = .ok (.aload_n 0, 1)) := by decide +kernel
theorem gX12_stamps_10 : (decode cX12_stamps 179 = .ok (.goto (-66), 3)) ∧ (decode cX12_stamps 182 = .ok (.iload 7, 2)) ∧ (decode cX12_stamps 184 = .ok (.ifCond .ne 6, 3)) ∧ (decode cX12_stamps 187 = .ok (.bipush (-4), 2)) ∧ (decode cX12_stamps 189 = .ok (.ireturn, 1)) ∧ (decode cX12_stamps 190 = .ok (.aload_n 0, 1)) ∧ (decode cX12_stamps 191 = .ok (.getfield 9, 3)) ∧ (decode cX12_stamps 194 = .ok (.bipush 6, 2)) ∧ (decode cX12_stamps 196 = .ok (.iaload, 1)) ∧ (decode cX12_stamps 197 = .ok (.iload 4, 2)) := by decide +kernel
theorem gX12_stamps_11 : (decode cX12_stamps 199 = .ok (.iadd, 1)) ∧ (decode cX12_stamps 200 = .ok (.bipush 24, 2)) ∧ (decode cX12_stamps 202 = .ok (.if_icmp .le 6, 3)) ∧ (decode cX12_stamps 205 = .ok (.bipush (-2), 2)) ∧ (decode cX12_stamps 207 = .ok (.ireturn, 1)) ∧ (decode cX12_stamps 208 = .ok (.iconst 0, 1)) ∧ (decode cX12_stamps 209 = .ok (.istore 8, 2)) ∧ (decode cX12_stamps 211 = .ok (.iload 8, 2)) ∧ (decode cX12_stamps 213 = .ok (.iload 4, 2)) ∧ (decode cX12_stamps 215 = .ok (.if_icmp .ge 40, 3)) := by decide +kernel
theorem gX12_stamps_14 : (decode cX12_stamps 246 = .ok (.invokevirtual 133, 3)) ∧ (decode cX12_stamps 249 = .ok (.iinc 8 1, 3)) ∧ (decode cX12_stamps 252 = .ok (.goto (-41), 3)) ∧ (decode cX12_stamps 255 = .ok (.aload_n 0, 1)) ∧ (decode cX12_stamps 256 = .ok (.getfield 9, 3)) ∧ (decode cX12_stamps 259 = .ok (.bipush 6, 2)) ∧ (decode cX12_stamps 261 = .ok (.iaload, 1)) ∧ (decode cX12_stamps 262 = .ok (.ireturn, 1)) := by decide +kernel
theorem gX12_stamps_12 : (decode cX12_stamps 218 = .ok (.aload_n 0, 1)) ∧ (decode cX12_stamps 219 = .ok (.iload_n 1, 1)) ∧ (decode cX12_stamps 220 = .ok (.aload_n 0, 1)) ∧ (decode cX12_stamps 221 = .ok (.getfield 69, 3)) ∧ (decode cX12_stamps 224 = .ok (.iload 6, 2)) ∧ (decode cX12_stamps 226 = .ok (.iconst 2, 1)) ∧ (decode cX12_stamps 227 = .ok (.iload 8, 2)) ∧ (decode cX12_stamps 229 = .ok (.imul, 1)) ∧ (decode cX12_stamps 230 = .ok (.iadd, 1)) ∧ (decode cX12_stamps 231 = .ok (.iaload, 1)) := by decide +kernel
theorem gX12_stamps_13 : (decode cX12_stamps 232 = .ok (.aload_n 0, 1)) ∧ (decode cX12_stamps 233 = .ok (.getfield 69, 3)) ∧ (decode cX12_stamps 236 = .ok (.iload 6, 2)) ∧ (decode cX12_stamps 238 = .ok (.iconst 2, 1)) ∧ (decode cX12_stamps 239 = .ok (.iload 8, 2)) ∧ (decode cX12_stamps 241 = .ok (.imul, 1)) ∧ (decode cX12_stamps 242 = .ok (.iadd, 1)) ∧ (decode cX12_stamps 243 = .ok (.iconst 1, 1)) ∧ (decode cX12_stamps 244 = .ok (.iadd, 1)) ∧ (decode cX12_stamps 245 = .ok (.iaload, 1)) := by decide +kernel
theorem gX12_stamps_9 : (decode cX12_stamps 158 = .ok (.iaload, 1)) ∧ (decode cX12_stamps 159 = .ok (.iconst 0, 1)) ∧ (decode cX12_stamps 160 = .ok (.sipush 999, 3)) ∧ (decode cX12_stamps 163 = .ok (.invokestatic 84, 3)) ∧ (decode cX12_stamps 166 = .ok (.ifCond .eq 7, 3)) ∧ (decode cX12_stamps 169 = .ok (.iconst 1, 1)) ∧ (decode cX12_stamps 170 = .ok (.goto 4, 3)) ∧ (decode cX12_stamps 173 = .ok (.iconst 0, 1)) ∧ (decode cX12_stamps 174 = .ok (.istore 7, 2)) ∧ (decode cX12_stamps 176 = .ok (.iinc 8 1, 3)) := by decide +kernel
theorem gX12_stamps_7 : (decode cX12_stamps 126 = .ok (.getfield 69, 3)) ∧ (decode cX12_stamps 129 = .ok (.iload 6, 2)) ∧ (decode cX12_stamps 131 = .ok (.iconst 2, 1)) ∧ (decode cX12_stamps 132 = .ok (.iload 8, 2)) ∧ (decode cX12_stamps 134 = .ok (.imul, 1)) ∧ (decode cX12_stamps 135 = .ok (.iadd, 1)) ∧ (decode cX12_stamps 136 = .ok (.iaload, 1)) ∧ (decode cX12_stamps 137 = .ok (.iconst 0, 1)) ∧ (decode cX12_stamps 138 = .ok (.iconst 5, 1)) ∧ (decode cX12_stamps 139 = .ok (.invokestatic 84, 3)) := by decide +kernel
theorem gX12_stamps_8 : (decode cX12_stamps 142 = .ok (.ifCond .eq 31, 3)) ∧ (decode cX12_stamps 145 = .ok (.aload_n 0, 1)) ∧ (decode cX12_stamps 146 = .ok (.getfield 69, 3)) ∧ (decode cX12_stamps 149 = .ok (.iload 6, 2)) ∧ (decode cX12_stamps 151 = .ok (.iconst 2, 1)) ∧ (decode cX12_stamps 152 = .ok (.iload 8, 2)) ∧ (decode cX12_stamps 154 = .ok (.imul, 1)) ∧ (decode cX12_stamps 155 = .ok (.iadd, 1)) ∧ (decode cX12_stamps 156 = .ok (.iconst 1, 1)) ∧ (decode cX12_stamps 157 = .ok (.iadd, 1)) := by decide +kernel
end WR
/-- what the reference lays on a shelf -/
def SLV (x2 x3 s z a b c : Int32) : Prop := (x2 = 3 → (s < 0 → a = 0) ∧ (¬ s < 0 → a = 4 ∧ b = s ∧ c = z)) ∧ (x2 = 4 → a = 0) ∧ (x2 = 0 ∨ x2 = 1 ∨ x2 = 2 → a = x2 + 1 ∧ b = x3)
/-- one shelf held alike -/
def SL1 (w n t s o z : Int32) : Prop := (w = 4 ∧ s = 0) ∨ (w = 0 ∧ s = 1 ∧ n = o) ∨ (w = 1 ∧ s = 2 ∧ n = o) ∨ (w = 2 ∧ s = 3 ∧ n = o) ∨ (w = 3 ∧ s = 4 ∧ t = o ∧ n = z ∧ Wi t 0 4)
def SLR (hw hn ht sh sf ss : Nat → Int32) : Prop := ∀ t, t < 4 → SL1 (hw t) (hn t) (ht t) (sh t) (sf t) (ss t)
theorem wi_04 {x : Int32} (h : Wi x (-1) 4) (h2 : ¬ x < 0) : Wi x 0 4 := ⟨h2, h.2⟩
theorem SLR.sh {hw hn ht sh sf ss hs hz hi so si it gw gn gt ksh ksf kss : Nat → Int32} {x1 x2 x3 : Int32} {kp ks kf : Nat} (h : SLR hw hn ht sh sf ss) (hR : SHR hs hz hi so si it)
    (hc : (SHX x1 x2 x3 kp ks kf = 1 → (x2 = 3 → gw = upd hw x1.toNatClampNeg (ifc (hs x3.toNatClampNeg = (-1)) 4 3) ∧ gn = upd hn x1.toNatClampNeg (hz x3.toNatClampNeg) ∧ gt = upd ht x1.toNatClampNeg (hs x3.toNatClampNeg)) ∧ (¬ x2 = 3 → gw = upd hw x1.toNatClampNeg x2 ∧ gn = upd hn x1.toNatClampNeg x3 ∧ gt = ht)) ∧ (¬ SHX x1 x2 x3 kp ks kf = 1 → gw = hw ∧ gn = hn ∧ gt = ht))
    (hm : (SHX x1 x2 x3 kp ks kf = 1 → ∃ a b c : Int32, ksh = upd sh x1.toNatClampNeg a ∧ ksf = upd sf x1.toNatClampNeg b ∧ kss = upd ss x1.toNatClampNeg c ∧ SLV x2 x3 (so x3.toNatClampNeg) (si x3.toNatClampNeg) a b c) ∧ (¬ SHX x1 x2 x3 kp ks kf = 1 → ksh = sh ∧ ksf = sf ∧ kss = ss)) : SLR gw gn gt ksh ksf kss := by
  by_cases hE : SHX x1 x2 x3 kp ks kf = 1
  · obtain ⟨a, b, c, e1, e2, e3, hv⟩ := hm.1 hE
    obtain ⟨h1, h2⟩ := SHX.one hE
    subst e1 e2 e3
    intro t ht9
    by_cases ct : t = x1.toNatClampNeg
    · by_cases c3 : x2 = 3
      · obtain ⟨d1, d2, d3⟩ := (hc.1 hE).1 c3
        subst d1 d2 d3
        have h3 : Wi x3 0 3 := by
          rcases h2 with h2 | h2 | h2 | h2 | h2
          · exact absurd (c3.symm.trans h2) (by decide)
          · exact absurd (c3.symm.trans h2) (by decide)
          · exact absurd (c3.symm.trans h2) (by decide)
          · exact h2.2
          · exact absurd (c3.symm.trans h2) (by decide)
        obtain ⟨j, hj, rfl⟩ := Wi3 h3
        obtain ⟨f1, f2, f3, -⟩ := hR j hj
        rw [nI_clamp (n := j) (by omega)] at hv ⊢
        rw [f1, f2]
        unfold upd
        rw [if_pos ct, if_pos ct, if_pos ct, if_pos ct, if_pos ct, if_pos ct]
        by_cases c5 : so j < 0
        · exact Or.inl ⟨ifc_t (wi_m1 f3 c5), (hv.1 c3).1 c5⟩
        · obtain ⟨v1, v2, v3⟩ := (hv.1 c3).2 c5
          exact Or.inr (Or.inr (Or.inr (Or.inr ⟨ifc_f (fun h9 => c5 (by rw [h9]; decide)), v1, v2.symm, v3.symm, wi_04 f3 c5⟩)))
      · obtain ⟨d1, d2, d3⟩ := (hc.1 hE).2 c3
        subst d1 d2 d3
        unfold upd
        rw [if_pos ct, if_pos ct, if_pos ct, if_pos ct, if_pos ct]
        rcases h2 with h2 | h2 | h2 | h2 | h2
        · obtain ⟨v1, v2⟩ := hv.2.2 (Or.inl h2)
          exact Or.inr (Or.inl ⟨h2, v1.trans (by rw [h2]; decide), v2.symm⟩)
        · obtain ⟨v1, v2⟩ := hv.2.2 (Or.inr (Or.inl h2))
          exact Or.inr (Or.inr (Or.inl ⟨h2, v1.trans (by rw [h2]; decide), v2.symm⟩))
        · obtain ⟨v1, v2⟩ := hv.2.2 (Or.inr (Or.inr h2))
          exact Or.inr (Or.inr (Or.inr (Or.inl ⟨h2, v1.trans (by rw [h2]; decide), v2.symm⟩)))
        · exact absurd h2.1 c3
        · exact Or.inl ⟨h2, hv.2.1 h2⟩
    · have hk := h t ht9
      by_cases c3 : x2 = 3
      · obtain ⟨d1, d2, d3⟩ := (hc.1 hE).1 c3
        subst d1 d2 d3
        unfold upd
        rw [if_neg ct, if_neg ct, if_neg ct, if_neg ct, if_neg ct, if_neg ct]
        exact hk
      · obtain ⟨d1, d2, d3⟩ := (hc.1 hE).2 c3
        subst d1 d2 d3
        unfold upd
        rw [if_neg ct, if_neg ct, if_neg ct, if_neg ct, if_neg ct]
        exact hk
  · obtain ⟨a1, a2, a3⟩ := hc.2 hE
    obtain ⟨b1, b2, b3⟩ := hm.2 hE
    subst a1 a2 a3 b1 b2 b3
    exact h
section WR
variable {p : Program} {l : Launch} {e : Env} {R : Room} {s : State} {m : MethodId} {args : Array Value} {below : List Frame} {meth : Method} {c : Code} {H : Heap} {locs : List Loc} {cells slots : Nat} {Q : State → Prop}
variable {pc : Nat} {ls : Array Slot} {rest : List Value} {G : GG} {ws : va_W} {A : Nat → Prop} {y0 : MethodName} {b0 : ByteArray} {mL0 : Nat} {rt0 : Option FieldType} {a : Nat} {H0 : Heap}
theorem gX12_shelf_0 : (decode cX12_shelf 0 = .ok (.iload_n 2, 1)) ∧ (decode cX12_shelf 1 = .ok (.ifCond .ne 12, 3)) ∧ (decode cX12_shelf 4 = .ok (.aload_n 0, 1)) ∧ (decode cX12_shelf 5 = .ok (.iload_n 3, 1)) ∧ (decode cX12_shelf 6 = .ok (.iconst 5, 1)) ∧ (decode cX12_shelf 7 = .ok (.invokevirtual 120, 3)) ∧ (decode cX12_shelf 10 = .ok (.goto 50, 3)) ∧ (decode cX12_shelf 13 = .ok (.iload_n 2, 1)) ∧ (decode cX12_shelf 14 = .ok (.iconst 1, 1)) ∧ (decode cX12_shelf 15 = .ok (.if_icmp .ne 13, 3)) := by decide +kernel
theorem gX12_shelf_1 : (decode cX12_shelf 18 = .ok (.aload_n 0, 1)) ∧ (decode cX12_shelf 19 = .ok (.iload_n 3, 1)) ∧ (decode cX12_shelf 20 = .ok (.bipush 8, 2)) ∧ (decode cX12_shelf 22 = .ok (.invokevirtual 120, 3)) ∧ (decode cX12_shelf 25 = .ok (.goto 35, 3)) ∧ (decode cX12_shelf 28 = .ok (.iload_n 2, 1)) ∧ (decode cX12_shelf 29 = .ok (.iconst 2, 1)) ∧ (decode cX12_shelf 30 = .ok (.if_icmp .ne 13, 3)) ∧ (decode cX12_shelf 33 = .ok (.aload_n 0, 1)) ∧ (decode cX12_shelf 34 = .ok (.iload_n 3, 1)) := by decide +kernel
theorem gX12_shelf_2 : (decode cX12_shelf 35 = .ok (.bipush 9, 2)) ∧ (decode cX12_shelf 37 = .ok (.invokevirtual 120, 3)) ∧ (decode cX12_shelf 40 = .ok (.goto 20, 3)) ∧ (decode cX12_shelf 43 = .ok (.iload_n 2, 1)) ∧ (decode cX12_shelf 44 = .ok (.iconst 3, 1)) ∧ (decode cX12_shelf 45 = .ok (.if_icmp .ne 10, 3)) ∧ (decode cX12_shelf 48 = .ok (.iload_n 3, 1)) ∧ (decode cX12_shelf 49 = .ok (.invokestatic 336, 3)) ∧ (decode cX12_shelf 52 = .ok (.ifCond .eq 7, 3)) ∧ (decode cX12_shelf 55 = .ok (.iconst 1, 1)) := by decide +kernel
theorem gX12_shelf_3 : (decode cX12_shelf 56 = .ok (.goto 4, 3)) ∧ (decode cX12_shelf 59 = .ok (.iconst 0, 1)) ∧ (decode cX12_shelf 60 = .ok (.istore 4, 2)) ∧ (decode cX12_shelf 62 = .ok (.iload_n 1, 1)) ∧ (decode cX12_shelf 63 = .ok (.invokestatic 336, 3)) ∧ (decode cX12_shelf 66 = .ok (.ifCond .eq 17, 3)) ∧ (decode cX12_shelf 69 = .ok (.iload_n 2, 1)) ∧ (decode cX12_shelf 70 = .ok (.iconst 0, 1)) ∧ (decode cX12_shelf 71 = .ok (.iconst 4, 1)) ∧ (decode cX12_shelf 72 = .ok (.invokestatic 84, 3)) := by decide +kernel
theorem gX12_shelf_4 : (decode cX12_shelf 75 = .ok (.ifCond .eq 8, 3)) ∧ (decode cX12_shelf 78 = .ok (.iload 4, 2)) ∧ (decode cX12_shelf 80 = .ok (.ifCond .ne 5, 3)) ∧ (decode cX12_shelf 83 = .ok (.iconst (-1), 1)) ∧ (decode cX12_shelf 84 = .ok (.ireturn, 1)) ∧ (decode cX12_shelf 85 = .ok (.iload_n 2, 1)) ∧ (decode cX12_shelf 86 = .ok (.iconst 4, 1)) ∧ (decode cX12_shelf 87 = .ok (.if_icmp .eq 17, 3)) ∧ (decode cX12_shelf 90 = .ok (.iload_n 2, 1)) ∧ (decode cX12_shelf 91 = .ok (.iconst 3, 1)) := by decide +kernel
theorem gX12_shelf_5 : (decode cX12_shelf 92 = .ok (.if_icmp .ne 16, 3)) ∧ (decode cX12_shelf 95 = .ok (.aload_n 0, 1)) ∧ (decode cX12_shelf 96 = .ok (.getfield 63, 3)) ∧ (decode cX12_shelf 99 = .ok (.iload_n 3, 1)) ∧ (decode cX12_shelf 100 = .ok (.iaload, 1)) ∧ (decode cX12_shelf 101 = .ok (.ifCond .ge 7, 3)) ∧ (decode cX12_shelf 104 = .ok (.iconst 1, 1)) ∧ (decode cX12_shelf 105 = .ok (.goto 4, 3)) ∧ (decode cX12_shelf 108 = .ok (.iconst 0, 1)) ∧ (decode cX12_shelf 109 = .ok (.istore 5, 2)) := by decide +kernel
theorem gX12_shelf_6 : (decode cX12_shelf 111 = .ok (.aload_n 0, 1)) ∧ (decode cX12_shelf 112 = .ok (.getfield 72, 3)) ∧ (decode cX12_shelf 115 = .ok (.iload_n 1, 1)) ∧ (decode cX12_shelf 116 = .ok (.iload 5, 2)) ∧ (decode cX12_shelf 118 = .ok (.ifCond .eq 7, 3)) ∧ (decode cX12_shelf 121 = .ok (.iconst 0, 1)) ∧ (decode cX12_shelf 122 = .ok (.goto 6, 3)) ∧ (decode cX12_shelf 125 = .ok (.iload_n 2, 1)) ∧ (decode cX12_shelf 126 = .ok (.iconst 1, 1)) ∧ (decode cX12_shelf 127 = .ok (.iadd, 1)) := by decide +kernel
theorem m_1061 : Cond.fieldLink RX12 72 "InquiryBenchModel" "shelves" "[I" ∈ BW := iB_BW56 _ (List.mem_of_getElem? (i := 10) rfl)
theorem gf_X12_72 (hC : CX p s m meth c y0 b0 mL0 rt0 args) (hy0 : y0.cls = RX12) (hK : KK G s) (hP : va_P G.1 vwCl ws H) (q0 : Nat) {fs : List Value} {v : Value} (he : ws[q0]? = some (a, .inr (12, fs))) (hv : fs[31]? = some v) (hdg : decode b0 pc = .ok (.getfield 72, 3)) (kk : W p l e R s m args below meth c H locs cells slots Q (F0 m (pc + 3) ls (v :: rest))) : W p l e R s m args below meth c H locs cells slots Q (F0 m pc ls (.ref a :: rest)) := by
  obtain ⟨hx, hb, hr, hml, hB, hown, hlocks, hnm⟩ := hC
  rw [hy0] at hown
  exact va_get (ci := 12) (C := RX12) (T := TX12) (N := 41) hx hb hB in_X12 hown hK.1 hP q0 he rfl 31 (by decide) (hB _ m_1061) (fun _ h => h) hv hdg kk
theorem gX12_shelf_7 : (decode cX12_shelf 128 = .ok (.iastore, 1)) ∧ (decode cX12_shelf 129 = .ok (.aload_n 0, 1)) ∧ (decode cX12_shelf 130 = .ok (.getfield 75, 3)) ∧ (decode cX12_shelf 133 = .ok (.iload_n 1, 1)) ∧ (decode cX12_shelf 134 = .ok (.iload 5, 2)) ∧ (decode cX12_shelf 136 = .ok (.ifCond .eq 7, 3)) ∧ (decode cX12_shelf 139 = .ok (.iconst 0, 1)) ∧ (decode cX12_shelf 140 = .ok (.goto 18, 3)) ∧ (decode cX12_shelf 143 = .ok (.iload_n 2, 1)) ∧ (decode cX12_shelf 144 = .ok (.iconst 3, 1)) := by decide +kernel
theorem m_1062 : Cond.fieldLink RX12 75 "InquiryBenchModel" "shelfOf" "[I" ∈ BW := iB_BW56 _ (List.mem_of_getElem? (i := 11) rfl)
theorem gf_X12_75 (hC : CX p s m meth c y0 b0 mL0 rt0 args) (hy0 : y0.cls = RX12) (hK : KK G s) (hP : va_P G.1 vwCl ws H) (q0 : Nat) {fs : List Value} {v : Value} (he : ws[q0]? = some (a, .inr (12, fs))) (hv : fs[32]? = some v) (hdg : decode b0 pc = .ok (.getfield 75, 3)) (kk : W p l e R s m args below meth c H locs cells slots Q (F0 m (pc + 3) ls (v :: rest))) : W p l e R s m args below meth c H locs cells slots Q (F0 m pc ls (.ref a :: rest)) := by
  obtain ⟨hx, hb, hr, hml, hB, hown, hlocks, hnm⟩ := hC
  rw [hy0] at hown
  exact va_get (ci := 12) (C := RX12) (T := TX12) (N := 41) hx hb hB in_X12 hown hK.1 hP q0 he rfl 32 (by decide) (hB _ m_1062) (fun _ h => h) hv hdg kk
theorem gX12_shelf_8 : (decode cX12_shelf 145 = .ok (.if_icmp .ne 12, 3)) ∧ (decode cX12_shelf 148 = .ok (.aload_n 0, 1)) ∧ (decode cX12_shelf 149 = .ok (.getfield 63, 3)) ∧ (decode cX12_shelf 152 = .ok (.iload_n 3, 1)) ∧ (decode cX12_shelf 153 = .ok (.iaload, 1)) ∧ (decode cX12_shelf 154 = .ok (.goto 4, 3)) ∧ (decode cX12_shelf 157 = .ok (.iload_n 3, 1)) ∧ (decode cX12_shelf 158 = .ok (.iastore, 1)) ∧ (decode cX12_shelf 159 = .ok (.aload_n 0, 1)) ∧ (decode cX12_shelf 160 = .ok (.getfield 78, 3)) := by decide +kernel
theorem m_1063 : Cond.fieldLink RX12 78 "InquiryBenchModel" "shelfSize" "[I" ∈ BW := iB_BW56 _ (List.mem_of_getElem? (i := 12) rfl)
theorem gf_X12_78 (hC : CX p s m meth c y0 b0 mL0 rt0 args) (hy0 : y0.cls = RX12) (hK : KK G s) (hP : va_P G.1 vwCl ws H) (q0 : Nat) {fs : List Value} {v : Value} (he : ws[q0]? = some (a, .inr (12, fs))) (hv : fs[33]? = some v) (hdg : decode b0 pc = .ok (.getfield 78, 3)) (kk : W p l e R s m args below meth c H locs cells slots Q (F0 m (pc + 3) ls (v :: rest))) : W p l e R s m args below meth c H locs cells slots Q (F0 m pc ls (.ref a :: rest)) := by
  obtain ⟨hx, hb, hr, hml, hB, hown, hlocks, hnm⟩ := hC
  rw [hy0] at hown
  exact va_get (ci := 12) (C := RX12) (T := TX12) (N := 41) hx hb hB in_X12 hown hK.1 hP q0 he rfl 33 (by decide) (hB _ m_1063) (fun _ h => h) hv hdg kk
theorem gX12_shelf_9 : (decode cX12_shelf 163 = .ok (.iload_n 1, 1)) ∧ (decode cX12_shelf 164 = .ok (.iload 5, 2)) ∧ (decode cX12_shelf 166 = .ok (.ifCond .ne 8, 3)) ∧ (decode cX12_shelf 169 = .ok (.iload_n 2, 1)) ∧ (decode cX12_shelf 170 = .ok (.iconst 3, 1)) ∧ (decode cX12_shelf 171 = .ok (.if_icmp .ge 7, 3)) ∧ (decode cX12_shelf 174 = .ok (.iconst 0, 1)) ∧ (decode cX12_shelf 175 = .ok (.goto 9, 3)) ∧ (decode cX12_shelf 178 = .ok (.aload_n 0, 1)) ∧ (decode cX12_shelf 179 = .ok (.getfield 66, 3)) := by decide +kernel
theorem gX12_shelf_10 : (decode cX12_shelf 182 = .ok (.iload_n 3, 1)) ∧ (decode cX12_shelf 183 = .ok (.iaload, 1)) ∧ (decode cX12_shelf 184 = .ok (.iastore, 1)) ∧ (decode cX12_shelf 185 = .ok (.iconst 1, 1)) ∧ (decode cX12_shelf 186 = .ok (.ireturn, 1)) := by decide +kernel
end WR
theorem dj_0_1_2_3__4 : ∀ i ∈ ([4] : List Nat), i ∉ ([0, 1, 2, 3] : List Nat) := by decide
theorem rm_10_1_3 {mc ms : Nat} : 1 + 1 ≤ (RM 10 mc ms).frames ∧ 8 + (3 + 11) + 40 * 1 ≤ (RM 10 mc ms).locals := ⟨by show 1 + 1 ≤ 10; decide, by show 8 + (3 + 11) + 40 * 1 ≤ 40 * 10; decide⟩
theorem dj_0_1__2_3_4 : ∀ i ∈ ([2, 3, 4] : List Nat), i ∉ ([0, 1] : List Nat) := by decide
theorem fm_3_4_0_1_2 {a0 a1 a2 a3 a4 : Nat × va_E} {l : va_W} : ([3, 4, 0, 1, 2] : List Nat).filterMap (fun i => (a0 :: a1 :: a2 :: a3 :: a4 :: l : va_W)[i]?) = ([a3, a4, a0, a1, a2] : va_W) := rfl
theorem nd_3_4_0_1_2 : va_nd [3, 4, 0, 1, 2] = true := by decide
theorem sm_3_4_0_1_2 {a0 a1 a2 a3 a4 : Nat × va_E} {l : va_W} : ([3, 4, 0, 1, 2] : List Nat).map (fun i => (a0 :: a1 :: a2 :: a3 :: a4 :: l : va_W)[i]?) = ([a3, a4, a0, a1, a2] : va_W).map some := rfl
def K_m_stampAtX (l : Launch) (G : GG) (k6 : Nat) (h0 : Nat) (jp : Nat) (ji : Nat) (nw : Nat) (nk : Nat) (mhasKept : Int32) (nt : Nat) (mtaped : Int32) (nr : Nat) (mrowMany : Int32) (mroundOf : Int32) (mroundFrom : Int32) (mouts : Int32) (nm : Nat) (mfromHour : Int32) (mtoHour : Int32) (ns : Nat) (mfrom : Int32) (mto : Int32) (msort : Int32) (misFault : Int32) (mdeep : Int32) (mcoded : Int32) (mlines : Int32) (nl : Nat) (nc : Nat) (nF : Nat) (np : Nat) (ntr : Nat) (nb : Nat) (mbestCost : Int32) (nso : Nat) (nsi : Nat) (nit : Nat) (nsh : Nat) (nsf : Nat) (nss : Nat) (nrc : Nat) (mtraced : Int32) (mdealer : Int32) (mnumber : Int32) (mwhose : Int32) (msize : Int32) (misParted : Int32) (fnw : Nat → Int32) : Prop := MP l G yX12_stampAt cX12_stampAt 5 (some .int) 2 [.ref h0, .int (nI jp), .int (nI ji)] [(h0, oX12 nw nk mhasKept nt mtaped nr mrowMany mroundOf mroundFrom mouts nm mfromHour mtoHour ns mfrom mto msort misFault mdeep mcoded mlines nl nc nF np ntr nb mbestCost nso nsi nit nsh nsf nss nrc mtraced mdealer mnumber mwhose msize misParted), (nw, iA G 1662 fnw)] (fun r : Int32 => ∃ s9, (STQ fnw jp k6 ji s9) ∧ r = nI s9)
set_option maxHeartbeats 4000000 in
set_option maxRecDepth 100000 in
theorem m_stampAtX (l : Launch) (G : GG) (k6 : Nat) (h0 : Nat) (jp : Nat) (ji : Nat) (nw : Nat) (nk : Nat) (mhasKept : Int32) (nt : Nat) (mtaped : Int32) (nr : Nat) (mrowMany : Int32) (mroundOf : Int32) (mroundFrom : Int32) (mouts : Int32) (nm : Nat) (mfromHour : Int32) (mtoHour : Int32) (ns : Nat) (mfrom : Int32) (mto : Int32) (msort : Int32) (misFault : Int32) (mdeep : Int32) (mcoded : Int32) (mlines : Int32) (nl : Nat) (nc : Nat) (nF : Nat) (np : Nat) (ntr : Nat) (nb : Nat) (mbestCost : Int32) (nso : Nat) (nsi : Nat) (nit : Nat) (nsh : Nat) (nsf : Nat) (nss : Nat) (nrc : Nat) (mtraced : Int32) (mdealer : Int32) (mnumber : Int32) (mwhose : Int32) (msize : Int32) (misParted : Int32) (fnw : Nat → Int32) (e6 : fnw 6 = nI k6) (hk6 : k6 ≤ 24) (hji : ji < cntS fnw (nI jp) k6) : K_m_stampAtX l G k6 h0 jp ji nw nk mhasKept nt mtaped nr mrowMany mroundOf mroundFrom mouts nm mfromHour mtoHour ns mfrom mto msort misFault mdeep mcoded mlines nl nc nF np ntr nb mbestCost nso nsi nit nsh nsf nss nrc mtraced mdealer mnumber mwhose msize misParted fnw := by
  refine MP.start (by decide +kernel) (Nat.le_of_ble_eq_true rfl) ?_
  intro p e s m below meth c ls hC hK hP hD hl
  refine absQ (fun Q0 hQ0 => ?_)
  have hl : lv_has ls 5 [(0, .ref h0), (1, .int (nI jp)), (2, .int (nI ji))] := hl
  refine Kan8 hC (fun hx hb hr hml hB hown hlocks hnm => ?_)
  have hcl9 := cntS_le fnw (nI jp) k6
  refine lv_iload_n hx hb gX12_stampAt_0.1 rfl (lv_at2 hl) ?_
  refine lv_istore_n (lv' := [(3, .int (nI ji)), (0, .ref h0), (1, .int (nI jp)), (2, .int (nI ji))]) hx hb gX12_stampAt_0.2.1 rfl hl (by decide) rfl (fun ls hl => ?_)
  refine lv_iconst (v := 0) hx hb gX12_stampAt_0.2.2.1 (by decide) ?_
  refine lv_istore (lv' := [(4, .int 0), (3, .int (nI ji)), (0, .ref h0), (1, .int (nI jp)), (2, .int (nI ji))]) hx hb gX12_stampAt_0.2.2.2.1 hl (by decide) rfl (fun ls hl => ?_)
  have keyP : ∀ (nP kP : Nat) (lf : Nat) (ls : Array Slot), kP + nP = k6 → (lf + cntS fnw (nI jp) kP = ji) → lv_has ls 5 [(4, .int (nI kP)), (3, .int (nI lf)), (0, .ref h0), (1, .int (nI jp)), (2, .int (nI ji))] → W p l e (RM 2 0 0) s m ([.ref h0, .int (nI jp), .int (nI ji)] : List Value).toArray below meth c s.heap [] 0 0 Q0 (F0 m 5 ls []) := by
    intro nP
    induction nP with
    | zero =>
      intro kP lf ls hkP hlf hl
      obtain rfl : k6 = kP := by omega
      have hl : lv_has ls 5 [(4, .int (nI k6)), (3, .int (nI lf)), (0, .ref h0), (1, .int (nI jp)), (2, .int (nI ji))] := hl
      refine lv_iload hx hb gX12_stampAt_0.2.2.2.2.1 (lv_at0 hl) ?_
      refine lv_aload_n hx hb gX12_stampAt_0.2.2.2.2.2.1 rfl (lv_at2 hl) ?_
      refine gf_X12_9 hC rfl hK hP 0 rfl rfl gX12_stampAt_0.2.2.2.2.2.2.1 ?_
      refine lv_bipush (v := 6) hx hb gX12_stampAt_0.2.2.2.2.2.2.2.1 (by decide) ?_
      refine ald hC hK hP 1 rfl (vin (by decide +kernel)) (k := 6) (by decide +kernel) (v := nI k6) (e6) gX12_stampAt_0.2.2.2.2.2.2.2.2.1 ?_
      refine lv_icmp_ge (tgt := 49) hx hb gX12_stampAt_0.2.2.2.2.2.2.2.2.2 (by decide) (fun _ => ?_) (fun c9 => absurd (Int32.le_refl _) c9)
      exact (show False by omega).elim
    | succ nP ihP =>
      intro kP lf ls hkP hlf hl
      refine lv_iload hx hb gX12_stampAt_0.2.2.2.2.1 (lv_at0 hl) ?_
      refine lv_aload_n hx hb gX12_stampAt_0.2.2.2.2.2.1 rfl (lv_at2 hl) ?_
      refine gf_X12_9 hC rfl hK hP 0 rfl rfl gX12_stampAt_0.2.2.2.2.2.2.1 ?_
      refine lv_bipush (v := 6) hx hb gX12_stampAt_0.2.2.2.2.2.2.2.1 (by decide) ?_
      refine ald hC hK hP 1 rfl (vin (by decide +kernel)) (k := 6) (by decide +kernel) (v := nI k6) (e6) gX12_stampAt_0.2.2.2.2.2.2.2.2.1 ?_
      refine lv_icmp_ge (tgt := 49) hx hb gX12_stampAt_0.2.2.2.2.2.2.2.2.2 (by decide) (fun c9 => absurd c9 (nI_ge (a := kP) (b := k6) (by omega) (by omega))) (fun _ => ?_)
      refine lv_aload_n hx hb gX12_stampAt_1.1 rfl (lv_at2 hl) ?_
      refine gf_X12_9 hC rfl hK hP 0 rfl rfl gX12_stampAt_1.2.1 ?_
      refine lv_bipush (v := 104) hx hb gX12_stampAt_1.2.2.1 (by decide) ?_
      refine lv_iconst (v := 3) hx hb gX12_stampAt_1.2.2.2.1 (by decide) ?_
      refine lv_iload hx hb gX12_stampAt_1.2.2.2.2.1 (lv_at0 hl) ?_
      refine lv_imul hx hb gX12_stampAt_1.2.2.2.2.2.1 ?_
      refine eqi (x1 := nI (3 * kP)) (nI_mul 3 kP) ?_
      refine lv_iadd hx hb gX12_stampAt_1.2.2.2.2.2.2.1 ?_
      refine eqi (x1 := nI (104 + 3 * kP)) (nI_add 104 (3 * kP)) ?_
      refine aldN hC hK hP 1 rfl (k := (104 + 3 * kP)) (by omega) (Nat.le_of_ble_eq_true rfl) (v := fnw (104 + 3 * kP)) rfl gX12_stampAt_1.2.2.2.2.2.2.2.1 ?_
      refine lv_iload_n hx hb gX12_stampAt_1.2.2.2.2.2.2.2.2.1 rfl (lv_at3 hl) ?_
      refine lv_icmp_ne (tgt := 43) hx hb gX12_stampAt_1.2.2.2.2.2.2.2.2.2 (by decide) (fun c_30_6120 => ?_) (fun c_30_6120 => ?_)
      · have hcs9 := cntS_f (f := fnw) (p := nI jp) (n := kP) c_30_6120
        refine lv_iinc (v := nI (kP + 1)) (lv' := [(4, .int (nI (kP + 1))), (3, .int (nI lf)), (0, .ref h0), (1, .int (nI jp)), (2, .int (nI ji))]) hx hb gX12_stampAt_2.2.2.2.2.2.1 hl (k := 0) rfl (nI_1 _) (by decide) rfl (fun ls hl => ?_)
        refine lv_goto (tgt := 5) hx hb gX12_stampAt_2.2.2.2.2.2.2.1 (by decide) ?_
        exact ihP (kP + 1) lf _ (by omega) (by first | assumption | exact Or.inl rfl | exact Or.inr rfl | omega | exact rfl) (lv_sub hl [0, 1, 2, 3, 4] rfl)
      · have hcs9 := cntS_t (f := fnw) (p := nI jp) (n := kP) c_30_6120
        refine lv_iload_n hx hb gX12_stampAt_2.1 rfl (lv_at1 hl) ?_
        refine lv_if_ne (tgt := 40) hx hb gX12_stampAt_2.2.1 (by decide) (fun c_34_6121 => ?_) (fun c_34_6121 => ?_)
        · have hlf1 := nI_nz c_34_6121
          refine lv_iinc (v := nI (lf - 1)) (lv' := [(3, .int (nI (lf - 1))), (4, .int (nI kP)), (0, .ref h0), (1, .int (nI jp)), (2, .int (nI ji))]) hx hb gX12_stampAt_2.2.2.2.2.1 hl (k := 1) rfl ((nI_dec lf).trans (nI_sb (by omega))) (by decide) rfl (fun ls hl => ?_)
          refine lv_iinc (v := nI (kP + 1)) (lv' := [(4, .int (nI (kP + 1))), (3, .int (nI (lf - 1))), (0, .ref h0), (1, .int (nI jp)), (2, .int (nI ji))]) hx hb gX12_stampAt_2.2.2.2.2.2.1 hl (k := 1) rfl (nI_1 _) (by decide) rfl (fun ls hl => ?_)
          refine lv_goto (tgt := 5) hx hb gX12_stampAt_2.2.2.2.2.2.2.1 (by decide) ?_
          exact ihP (kP + 1) (lf - 1) _ (by omega) (by first | assumption | exact Or.inl rfl | exact Or.inr rfl | omega | exact rfl) (lv_sub hl [0, 1, 2, 3, 4] rfl)
        · refine lv_iload hx hb gX12_stampAt_2.2.2.1 (lv_at0 hl) ?_
          refine toQ hQ0 ?_
          exact RP (v := nI kP) hC (⟨kP, ⟨by omega, c_30_6120, by have h9 := nI_z9 (by omega) c_34_6121; omega⟩, rfl⟩) rfl gX12_stampAt_2.2.2.2.1
  exact keyP k6 0 ji _ (by omega) (by first | assumption | exact Or.inl rfl | exact Or.inr rfl | omega | exact rfl) (lv_sub hl [0, 1, 2, 3, 4] rfl)
def K_m_atMostX (l : Launch) (G : GG) (h0 : Nat) (jb : Nat) (ja : Nat) (vv : Int32) (nw : Nat) (nk : Nat) (mhasKept : Int32) (nt : Nat) (mtaped : Int32) (nr : Nat) (mrowMany : Int32) (mroundOf : Int32) (mroundFrom : Int32) (mouts : Int32) (nm : Nat) (mfromHour : Int32) (mtoHour : Int32) (ns : Nat) (mfrom : Int32) (mto : Int32) (msort : Int32) (misFault : Int32) (mdeep : Int32) (mcoded : Int32) (mlines : Int32) (nl : Nat) (nc : Nat) (nF : Nat) (np : Nat) (ntr : Nat) (nb : Nat) (mbestCost : Int32) (nso : Nat) (nsi : Nat) (nit : Nat) (nsh : Nat) (nsf : Nat) (nss : Nat) (nrc : Nat) (mtraced : Int32) (mdealer : Int32) (mnumber : Int32) (mwhose : Int32) (msize : Int32) (misParted : Int32) (fnm : Nat → Int32) : Prop := MV l G yX12_atMost cX12_atMost 4 2 0 0 [.ref h0, .int (nI jb), .int (nI ja), .int vv] [(h0, oX12 nw nk mhasKept nt mtaped nr mrowMany mroundOf mroundFrom mouts nm mfromHour mtoHour ns mfrom mto msort misFault mdeep mcoded mlines nl nc nF np ntr nb mbestCost nso nsi nit nsh nsf nss nrc mtraced mdealer mnumber mwhose msize misParted), (nm, iA G 36 fnm)] (fun u : (Nat → Int32) => ∀ x9 y9, x9 < 6 → y9 < 6 → MAT u x9 y9 = MNI (MAT fnm) jb ja vv.toInt x9 y9) (fun u : (Nat → Int32) => [(h0, oX12 nw nk mhasKept nt mtaped nr mrowMany mroundOf mroundFrom mouts nm mfromHour mtoHour ns mfrom mto msort misFault mdeep mcoded mlines nl nc nF np ntr nb mbestCost nso nsi nit nsh nsf nss nrc mtraced mdealer mnumber mwhose msize misParted), (nm, iA G 36 u)])
set_option maxHeartbeats 4000000 in
set_option maxRecDepth 100000 in
theorem m_atMostX (l : Launch) (G : GG) (h0 : Nat) (jb : Nat) (ja : Nat) (vv : Int32) (nw : Nat) (nk : Nat) (mhasKept : Int32) (nt : Nat) (mtaped : Int32) (nr : Nat) (mrowMany : Int32) (mroundOf : Int32) (mroundFrom : Int32) (mouts : Int32) (nm : Nat) (mfromHour : Int32) (mtoHour : Int32) (ns : Nat) (mfrom : Int32) (mto : Int32) (msort : Int32) (misFault : Int32) (mdeep : Int32) (mcoded : Int32) (mlines : Int32) (nl : Nat) (nc : Nat) (nF : Nat) (np : Nat) (ntr : Nat) (nb : Nat) (mbestCost : Int32) (nso : Nat) (nsi : Nat) (nit : Nat) (nsh : Nat) (nsf : Nat) (nss : Nat) (nrc : Nat) (mtraced : Int32) (mdealer : Int32) (mnumber : Int32) (mwhose : Int32) (msize : Int32) (misParted : Int32) (fnm : Nat → Int32) (hjb : jb < 6) (hja : ja < 6) : K_m_atMostX l G h0 jb ja vv nw nk mhasKept nt mtaped nr mrowMany mroundOf mroundFrom mouts nm mfromHour mtoHour ns mfrom mto msort misFault mdeep mcoded mlines nl nc nF np ntr nb mbestCost nso nsi nit nsh nsf nss nrc mtraced mdealer mnumber mwhose msize misParted fnm := by
  refine MV.start (by decide +kernel) (Nat.le_of_ble_eq_true rfl) ?_
  intro p e s m below meth c A ls hC hK hP hD hS hA hl
  refine absQ (fun Q0 hQ0 => ?_)
  have hl : lv_has ls 4 [(0, .ref h0), (1, .int (nI jb)), (2, .int (nI ja)), (3, .int vv)] := hl
  refine Kan8 hC (fun hx hb hr hml hB hown hlocks hnm => ?_)
  refine lv_aload_n hx hb gX12_atMost_0.1 rfl (lv_at0 hl) ?_
  refine gf_X12_26 hC rfl hK hP 0 rfl rfl gX12_atMost_0.2.1 ?_
  refine lv_bipush (v := 6) hx hb gX12_atMost_0.2.2.1 (by decide) ?_
  refine lv_iload_n hx hb gX12_atMost_0.2.2.2.1 rfl (lv_at1 hl) ?_
  refine lv_imul hx hb gX12_atMost_0.2.2.2.2.1 ?_
  refine eqi (x1 := nI (6 * jb)) (nI_mul 6 jb) ?_
  refine lv_iload_n hx hb gX12_atMost_0.2.2.2.2.2.1 rfl (lv_at2 hl) ?_
  refine lv_iadd hx hb gX12_atMost_0.2.2.2.2.2.2.1 ?_
  refine eqi (x1 := nI (6 * jb + ja)) (nI_add (6 * jb) ja) ?_
  refine lv_aload_n hx hb gX12_atMost_0.2.2.2.2.2.2.2.1 rfl (lv_at0 hl) ?_
  refine gf_X12_26 hC rfl hK hP 0 rfl rfl gX12_atMost_0.2.2.2.2.2.2.2.2.1 ?_
  refine lv_bipush (v := 6) hx hb gX12_atMost_0.2.2.2.2.2.2.2.2.2 (by decide) ?_
  refine lv_iload_n hx hb gX12_atMost_1.1 rfl (lv_at1 hl) ?_
  refine lv_imul hx hb gX12_atMost_1.2.1 ?_
  refine eqi (x1 := nI (6 * jb)) (nI_mul 6 jb) ?_
  refine lv_iload_n hx hb gX12_atMost_1.2.2.1 rfl (lv_at2 hl) ?_
  refine lv_iadd hx hb gX12_atMost_1.2.2.2.1 ?_
  refine eqi (x1 := nI (6 * jb + ja)) (nI_add (6 * jb) ja) ?_
  refine aldN hC hK hP 1 rfl (k := 6 * jb + ja) (by omega) (Nat.le_of_ble_eq_true rfl) (v := fnm (6 * jb + ja)) (rfl) gX12_atMost_1.2.2.2.2.1 ?_
  refine lv_iload_n hx hb gX12_atMost_1.2.2.2.2.2.1 rfl (lv_at3 hl) ?_
  refine va_mmin hx hb (hml.trans hl.1.symm) hown (hB _ m_1165) (hB _ m_373) (hB _ m_105) (hB _ m_374) (Nat.le_of_ble_eq_true rfl) (Nat.le_of_ble_eq_true rfl) (by first | exact Nat.le_of_ble_eq_true rfl | exact Nat.zero_le _)  (by first | exact Nat.le_of_ble_eq_true rfl | exact Nat.zero_le _) gX12_atMost_1.2.2.2.2.2.2.1 ?_
  refine lv_topi (fun x6122 ex6122 => ?_)
  refine astN hC hK hP hD hS 1 (ws' := [(h0, oX12 nw nk mhasKept nt mtaped nr mrowMany mroundOf mroundFrom mouts nm mfromHour mtoHour ns mfrom mto msort misFault mdeep mcoded mlines nl nc nF np ntr nb mbestCost nso nsi nit nsh nsf nss nrc mtraced mdealer mnumber mwhose msize misParted), (nm, iA G 36 (upd fnm (6 * jb + ja) x6122))]) rfl (k := (6 * jb + ja)) (by omega) (Nat.le_of_ble_eq_true rfl) (rfl) gX12_atMost_1.2.2.2.2.2.2.2.1 (fun H locs hP hD hS => ?_)
  refine toQ hQ0 ?_
  exact RV hC hP hD hS [0, 1] (upd fnm (6 * jb + ja) x6122) rfl rfl (by decide) (MNI.of hjb hja ex6122) gX12_atMost_1.2.2.2.2.2.2.2.2
def K_m_findClocksX (l : Launch) (G : GG) (kq : Nat) (k6 : Nat) (h0 : Nat) (nw : Nat) (nk : Nat) (mhasKept : Int32) (nt : Nat) (mtaped : Int32) (nr : Nat) (mrowMany : Int32) (mroundOf : Int32) (mroundFrom : Int32) (nm : Nat) (mfromHour : Int32) (mtoHour : Int32) (ns : Nat) (mfrom : Int32) (mto : Int32) (msort : Int32) (misFault : Int32) (mdeep : Int32) (mcoded : Int32) (mlines : Int32) (nl : Nat) (nc : Nat) (nF : Nat) (np : Nat) (ntr : Nat) (nb : Nat) (mbestCost : Int32) (nso : Nat) (nsi : Nat) (nit : Nat) (nsh : Nat) (nsf : Nat) (nss : Nat) (nrc : Nat) (mtraced : Int32) (mdealer : Int32) (mnumber : Int32) (mwhose : Int32) (msize : Int32) (misParted : Int32) (fnw : Nat → Int32) (fnm : Nat → Int32) : Prop := MI l G yX12_findClocks cX12_findClocks 7 (some .boolean) 4 0 0 [.ref h0] [(h0, oX12 nw nk mhasKept nt mtaped nr mrowMany mroundOf mroundFrom 0 nm mfromHour mtoHour ns mfrom mto msort misFault mdeep mcoded mlines nl nc nF np ntr nb mbestCost nso nsi nit nsh nsf nss nrc mtraced mdealer mnumber mwhose msize misParted), (nw, iA G 1662 fnw), (nm, iA G 36 fnm)] (fun (r : Int32) (u : (Nat → Int32)) => ((r = 1 ∧ NOS (KST (shf fnw 104) (VSE fnw kq) (fnw 3).toInt k6)) ∨ (r = 0 ∧ CLB (KST (shf fnw 104) (VSE fnw kq) (fnw 3).toInt k6) (MAT u))) ∧ (MB u)) (fun u : (Nat → Int32) => [(h0, oX12 nw nk mhasKept nt mtaped nr mrowMany mroundOf mroundFrom 0 nm mfromHour mtoHour ns mfrom mto msort misFault mdeep mcoded mlines nl nc nF np ntr nb mbestCost nso nsi nit nsh nsf nss nrc mtraced mdealer mnumber mwhose msize misParted), (nw, iA G 1662 fnw), (nm, iA G 36 u)])
set_option maxHeartbeats 4000000 in
set_option maxRecDepth 100000 in
theorem m_findClocksX (l : Launch) (G : GG) (kq : Nat) (k6 : Nat) (h0 : Nat) (nw : Nat) (nk : Nat) (mhasKept : Int32) (nt : Nat) (mtaped : Int32) (nr : Nat) (mrowMany : Int32) (mroundOf : Int32) (mroundFrom : Int32) (nm : Nat) (mfromHour : Int32) (mtoHour : Int32) (ns : Nat) (mfrom : Int32) (mto : Int32) (msort : Int32) (misFault : Int32) (mdeep : Int32) (mcoded : Int32) (mlines : Int32) (nl : Nat) (nc : Nat) (nF : Nat) (np : Nat) (ntr : Nat) (nb : Nat) (mbestCost : Int32) (nso : Nat) (nsi : Nat) (nit : Nat) (nsh : Nat) (nsf : Nat) (nss : Nat) (nrc : Nat) (mtraced : Int32) (mdealer : Int32) (mnumber : Int32) (mwhose : Int32) (msize : Int32) (misParted : Int32) (fnw : Nat → Int32) (fnm : Nat → Int32) (hN : NI fnw) (hgp : GPRm (fnw 3)) (ekq : fnw 5 = nI kq) (hkq : kq ≤ 12) (e6 : fnw 6 = nI k6) (hk6 : k6 ≤ 24) : K_m_findClocksX l G kq k6 h0 nw nk mhasKept nt mtaped nr mrowMany mroundOf mroundFrom nm mfromHour mtoHour ns mfrom mto msort misFault mdeep mcoded mlines nl nc nF np ntr nb mbestCost nso nsi nit nsh nsf nss nrc mtraced mdealer mnumber mwhose msize misParted fnw fnm := by
  refine MI.start (by decide +kernel) (Nat.le_of_ble_eq_true rfl) ?_
  intro p e s m below meth c A ls hC hK hP hD hS hA hl
  refine absQ (fun Q0 hQ0 => ?_)
  have hl : lv_has ls 7 [(0, .ref h0)] := hl
  refine Kan8 hC (fun hx hb hr hml hB hown hlocks hnm => ?_)
  refine lv_iconst (v := 0) hx hb gX12_findClocks_0.1 (by decide) ?_
  refine lv_istore_n (lv' := [(1, .int 0), (0, .ref h0)]) hx hb gX12_findClocks_0.2.1 rfl hl (by decide) rfl (fun ls hl => ?_)
  have keyA : ∀ (nA kA : Nat) (vA : Nat → Int32) (H : Heap) (locs : List Loc) (ls : Array Slot), kA + nA = 6 → (FRP kA 0 (MAT vA)) → va_PD G A [(h0, oX12 nw nk mhasKept nt mtaped nr mrowMany mroundOf mroundFrom 0 nm mfromHour mtoHour ns mfrom mto msort misFault mdeep mcoded mlines nl nc nF np ntr nb mbestCost nso nsi nit nsh nsf nss nrc mtraced mdealer mnumber mwhose msize misParted), (nw, iA G 1662 fnw), (nm, iA G 36 vA)] H → va_S A s.heap H locs → lv_has ls 7 [(1, .int (nI kA)), (0, .ref h0)] → W p l e (RM 4 0 0) s m ([.ref h0] : List Value).toArray below meth c H locs 0 0 Q0 (F0 m 2 ls []) := by
    intro nA
    induction nA with
    | zero =>
      intro kA vA H locs ls hkA hvA hPD hS hl
      refine Kan2 hPD (fun hP hD => ?_)
      obtain rfl : 6 = kA := by omega
      have hl : lv_has ls 7 [(1, .int 6), (0, .ref h0)] := hl
      refine lv_iload_n hx hb gX12_findClocks_0.2.2.1 rfl (lv_at0 hl) ?_
      refine lv_bipush (v := 6) hx hb gX12_findClocks_0.2.2.2.1 (by decide) ?_
      refine lv_icmp_ge (tgt := 63) hx hb gX12_findClocks_0.2.2.2.2.1 (by decide) (fun _ => ?_) (fun c9 => absurd (by decide) c9)
      have hz9 : PHI (KST (shf fnw 104) (VSE fnw kq) (fnw 3).toInt k6) (KCV fnw (VSE fnw kq) (fnw 3).toInt k6 0 1) (MAT vA) := PHI.base hvA KST.bas
      refine lv_iconst (v := 0) hx hb gX12_findClocks_3.2.2.2.2.1 (by decide) ?_
      refine lv_istore_n (lv' := [(1, .int 0), (0, .ref h0)]) hx hb gX12_findClocks_3.2.2.2.2.2.1 rfl hl (by decide) rfl (fun ls hl => ?_)
      have keyC : ∀ (nC kC : Nat) (vC : Nat → Int32) (H : Heap) (locs : List Loc) (ls : Array Slot), kC + nC = kq → (PHI (KST (shf fnw 104) (VSE fnw kq) (fnw 3).toInt k6) (KCV fnw (VSE fnw kq) (fnw 3).toInt k6 kC 1) (MAT vC)) → va_PD G A [(h0, oX12 nw nk mhasKept nt mtaped nr mrowMany mroundOf mroundFrom 0 nm mfromHour mtoHour ns mfrom mto msort misFault mdeep mcoded mlines nl nc nF np ntr nb mbestCost nso nsi nit nsh nsf nss nrc mtraced mdealer mnumber mwhose msize misParted), (nw, iA G 1662 fnw), (nm, iA G 36 vC)] H → va_S A s.heap H locs → lv_has ls 7 [(1, .int (nI kC)), (0, .ref h0)] → W p l e (RM 4 0 0) s m ([.ref h0] : List Value).toArray below meth c H locs 0 0 Q0 (F0 m 65 ls []) := by
        intro nC
        induction nC with
        | zero =>
          intro kC vC H locs ls hkC hvC hPD hS hl
          refine Kan2 hPD (fun hP hD => ?_)
          obtain rfl : kq = kC := by omega
          have hl : lv_has ls 7 [(1, .int (nI kq)), (0, .ref h0)] := hl
          refine lv_iload_n hx hb gX12_findClocks_3.2.2.2.2.2.2.1 rfl (lv_at0 hl) ?_
          refine lv_aload_n hx hb gX12_findClocks_3.2.2.2.2.2.2.2.1 rfl (lv_at1 hl) ?_
          refine gf_X12_9 hC rfl hK hP 0 rfl rfl gX12_findClocks_3.2.2.2.2.2.2.2.2.1 ?_
          refine lv_iconst (v := 5) hx hb gX12_findClocks_3.2.2.2.2.2.2.2.2.2 (by decide) ?_
          refine ald hC hK hP 1 rfl (vin (by decide +kernel)) (k := 5) (by decide +kernel) (v := nI kq) (ekq) gX12_findClocks_4.1 ?_
          refine lv_icmp_ge (tgt := 216) hx hb gX12_findClocks_4.2.1 (by decide) (fun _ => ?_) (fun c9 => absurd (Int32.le_refl _) c9)
          have hz9 : FWT (KST (shf fnw 104) (VSE fnw kq) (fnw 3).toInt k6) 0 (MAT vC) := FWT.of (hvC.all (fun q9 h9 => h9.1) (fun s9 h9 => NI.pap hN (by omega)))
          refine lv_iconst (v := 0) hx hb gX12_findClocks_13.1 (by decide) ?_
          refine lv_istore_n (lv' := [(1, .int 0), (0, .ref h0)]) hx hb gX12_findClocks_13.2.1 rfl hl (by decide) rfl (fun ls hl => ?_)
          have keyE : ∀ (nE kE : Nat) (vE : Nat → Int32) (H : Heap) (locs : List Loc) (ls : Array Slot), kE + nE = 6 → (FWT (KST (shf fnw 104) (VSE fnw kq) (fnw 3).toInt k6) kE (MAT vE)) → va_PD G A [(h0, oX12 nw nk mhasKept nt mtaped nr mrowMany mroundOf mroundFrom 0 nm mfromHour mtoHour ns mfrom mto msort misFault mdeep mcoded mlines nl nc nF np ntr nb mbestCost nso nsi nit nsh nsf nss nrc mtraced mdealer mnumber mwhose msize misParted), (nw, iA G 1662 fnw), (nm, iA G 36 vE)] H → va_S A s.heap H locs → lv_has ls 7 [(1, .int (nI kE)), (0, .ref h0)] → W p l e (RM 4 0 0) s m ([.ref h0] : List Value).toArray below meth c H locs 0 0 Q0 (F0 m 218 ls []) := by
            intro nE
            induction nE with
            | zero =>
              intro kE vE H locs ls hkE hvE hPD hS hl
              refine Kan2 hPD (fun hP hD => ?_)
              obtain rfl : 6 = kE := by omega
              have hl : lv_has ls 7 [(1, .int 6), (0, .ref h0)] := hl
              refine lv_iload_n hx hb gX12_findClocks_13.2.2.1 rfl (lv_at0 hl) ?_
              refine lv_bipush (v := 6) hx hb gX12_findClocks_13.2.2.2.1 (by decide) ?_
              refine lv_icmp_ge (tgt := 287) hx hb gX12_findClocks_13.2.2.2.2.1 (by decide) (fun _ => ?_) (fun c9 => absurd (by decide) c9)
              refine lv_iconst (v := 0) hx hb gX12_findClocks_17.2.2.1 (by decide) ?_
              refine lv_istore_n (lv' := [(1, .int 0), (0, .ref h0)]) hx hb gX12_findClocks_17.2.2.2.1 rfl hl (by decide) rfl (fun ls hl => ?_)
              refine lv_iconst (v := 0) hx hb gX12_findClocks_17.2.2.2.2.1 (by decide) ?_
              refine lv_istore_n (lv' := [(2, .int 0), (1, .int 0), (0, .ref h0)]) hx hb gX12_findClocks_17.2.2.2.2.2.1 rfl hl (by decide) rfl (fun ls hl => ?_)
              have keyH : ∀ (nH kH : Nat) (cl : Int32) (H : Heap) (locs : List Loc) (ls : Array Slot), kH + nH = 6 → (CLD cl kH (MAT vE)) → va_PD G A [(h0, oX12 nw nk mhasKept nt mtaped nr mrowMany mroundOf mroundFrom 0 nm mfromHour mtoHour ns mfrom mto msort misFault mdeep mcoded mlines nl nc nF np ntr nb mbestCost nso nsi nit nsh nsf nss nrc mtraced mdealer mnumber mwhose msize misParted), (nw, iA G 1662 fnw), (nm, iA G 36 vE)] H → va_S A s.heap H locs → lv_has ls 7 [(2, .int (nI kH)), (1, .int cl), (0, .ref h0)] → W p l e (RM 4 0 0) s m ([.ref h0] : List Value).toArray below meth c H locs 0 0 Q0 (F0 m 291 ls []) := by
                intro nH
                induction nH with
                | zero =>
                  intro kH cl H locs ls hkH hcl hPD hS hl
                  refine Kan2 hPD (fun hP hD => ?_)
                  obtain rfl : 6 = kH := by omega
                  have hl : lv_has ls 7 [(2, .int 6), (1, .int cl), (0, .ref h0)] := hl
                  refine lv_iload_n hx hb gX12_findClocks_17.2.2.2.2.2.2.1 rfl (lv_at0 hl) ?_
                  refine lv_bipush (v := 6) hx hb gX12_findClocks_17.2.2.2.2.2.2.2.1 (by decide) ?_
                  refine lv_icmp_ge (tgt := 327) hx hb gX12_findClocks_17.2.2.2.2.2.2.2.2.1 (by decide) (fun _ => ?_) (fun c9 => absurd (by decide) c9)
                  rcases hcl.yes hvE KST.bas with ⟨rfl, hno⟩ | ⟨rfl, hcb⟩
                  · refine lv_iload_n hx hb gX12_findClocks_19.2.2.2.2.2.2.1 rfl (lv_at1 hl) ?_
                    refine toQ hQ0 ?_
                    exact RI (v := 1) hC hP hD hS [0, 1, 2] vE rfl rfl (by decide) (⟨Or.inl ⟨rfl, hno⟩, hvE.mb⟩) (by decide +kernel) gX12_findClocks_19.2.2.2.2.2.2.2
                  · refine lv_iload_n hx hb gX12_findClocks_19.2.2.2.2.2.2.1 rfl (lv_at1 hl) ?_
                    refine toQ hQ0 ?_
                    exact RI (v := 0) hC hP hD hS [0, 1, 2] vE rfl rfl (by decide) (⟨Or.inr ⟨rfl, hcb⟩, hvE.mb⟩) (by decide +kernel) gX12_findClocks_19.2.2.2.2.2.2.2
                | succ nH ihH =>
                  intro kH cl H locs ls hkH hcl hPD hS hl
                  refine Kan2 hPD (fun hP hD => ?_)
                  refine lv_iload_n hx hb gX12_findClocks_17.2.2.2.2.2.2.1 rfl (lv_at0 hl) ?_
                  refine lv_bipush (v := 6) hx hb gX12_findClocks_17.2.2.2.2.2.2.2.1 (by decide) ?_
                  refine lv_icmp_ge (tgt := 327) hx hb gX12_findClocks_17.2.2.2.2.2.2.2.2.1 (by decide) (fun c9 => absurd c9 (nI_ge (a := kH) (b := 6) (by omega) (by omega))) (fun _ => ?_)
                  refine lv_iload_n hx hb gX12_findClocks_17.2.2.2.2.2.2.2.2.2 rfl (lv_at1 hl) ?_
                  refine lv_if_ne (tgt := 315) hx hb gX12_findClocks_18.1 (by decide) (fun c_298_6123 => ?_) (fun c_298_6123 => ?_)
                  · refine lv_iconst (v := 1) hx hb gX12_findClocks_19.1 (by decide) ?_
                    refine lv_goto (tgt := 320) hx hb gX12_findClocks_19.2.1 (by decide) ?_
                    refine lv_istore_n (lv' := [(1, .int 1), (2, .int (nI kH)), (0, .ref h0)]) hx hb gX12_findClocks_19.2.2.2.1 rfl hl (by decide) rfl (fun ls hl => ?_)
                    refine lv_iinc (v := nI (kH + 1)) (lv' := [(2, .int (nI (kH + 1))), (1, .int 1), (0, .ref h0)]) hx hb gX12_findClocks_19.2.2.2.2.1 hl (k := 1) rfl (nI_1 _) (by decide) rfl (fun ls hl => ?_)
                    refine lv_goto (tgt := 291) hx hb gX12_findClocks_19.2.2.2.2.2.1 (by decide) ?_
                    have hst9 : CLD 1 (kH + 1) (MAT vE) := CLD.old hcl c_298_6123
                    exact ihH (kH + 1) 1 _ _ _ (by omega) (by first | assumption | exact Or.inl rfl | exact Or.inr rfl | exact CLD.zero) (And.intro hP hD) hS (lv_sub hl [0, 1, 2] rfl)
                  · refine lv_aload_n hx hb gX12_findClocks_18.2.1 rfl (lv_at2 hl) ?_
                    refine gf_X12_26 hC rfl hK hP 0 rfl rfl gX12_findClocks_18.2.2.1 ?_
                    refine lv_bipush (v := 6) hx hb gX12_findClocks_18.2.2.2.1 (by decide) ?_
                    refine lv_iload_n hx hb gX12_findClocks_18.2.2.2.2.1 rfl (lv_at0 hl) ?_
                    refine lv_imul hx hb gX12_findClocks_18.2.2.2.2.2.1 ?_
                    refine eqi (x1 := nI (6 * kH)) (nI_mul 6 kH) ?_
                    refine lv_iload_n hx hb gX12_findClocks_18.2.2.2.2.2.2.1 rfl (lv_at0 hl) ?_
                    refine lv_iadd hx hb gX12_findClocks_18.2.2.2.2.2.2.2.1 ?_
                    refine eqi (x1 := nI (6 * kH + kH)) (nI_add (6 * kH) kH) ?_
                    refine aldN hC hK hP 2 rfl (k := (6 * kH + kH)) (by omega) (Nat.le_of_ble_eq_true rfl) (v := vE (6 * kH + kH)) rfl gX12_findClocks_18.2.2.2.2.2.2.2.2.1 ?_
                    refine lv_if_ge (tgt := 319) hx hb gX12_findClocks_18.2.2.2.2.2.2.2.2.2 (by decide) (fun c_312_6124 => ?_) (fun c_312_6124 => ?_)
                    · refine lv_iconst (v := 0) hx hb gX12_findClocks_19.2.2.1 (by decide) ?_
                      refine lv_istore_n (lv' := [(1, .int 0), (2, .int (nI kH)), (0, .ref h0)]) hx hb gX12_findClocks_19.2.2.2.1 rfl hl (by decide) rfl (fun ls hl => ?_)
                      refine lv_iinc (v := nI (kH + 1)) (lv' := [(2, .int (nI (kH + 1))), (1, .int 0), (0, .ref h0)]) hx hb gX12_findClocks_19.2.2.2.2.1 hl (k := 1) rfl (nI_1 _) (by decide) rfl (fun ls hl => ?_)
                      refine lv_goto (tgt := 291) hx hb gX12_findClocks_19.2.2.2.2.2.1 (by decide) ?_
                      have hst9 : CLD 0 (kH + 1) (MAT vE) := hcl.hi c_298_6123 (mat_s.mp c_312_6124)
                      exact ihH (kH + 1) 0 _ _ _ (by omega) (by first | assumption | exact Or.inl rfl | exact Or.inr rfl | exact CLD.zero) (And.intro hP hD) hS (lv_sub hl [0, 1, 2] rfl)
                    · refine lv_iconst (v := 1) hx hb gX12_findClocks_19.1 (by decide) ?_
                      refine lv_goto (tgt := 320) hx hb gX12_findClocks_19.2.1 (by decide) ?_
                      refine lv_istore_n (lv' := [(1, .int 1), (2, .int (nI kH)), (0, .ref h0)]) hx hb gX12_findClocks_19.2.2.2.1 rfl hl (by decide) rfl (fun ls hl => ?_)
                      refine lv_iinc (v := nI (kH + 1)) (lv' := [(2, .int (nI (kH + 1))), (1, .int 1), (0, .ref h0)]) hx hb gX12_findClocks_19.2.2.2.2.1 hl (k := 1) rfl (nI_1 _) (by decide) rfl (fun ls hl => ?_)
                      refine lv_goto (tgt := 291) hx hb gX12_findClocks_19.2.2.2.2.2.1 (by decide) ?_
                      have hst9 : CLD 1 (kH + 1) (MAT vE) := CLD.lo (by omega) (Int.not_le.mp (fun h9 => c_312_6124 (mat_s.mpr h9)))
                      exact ihH (kH + 1) 1 _ _ _ (by omega) (by first | assumption | exact Or.inl rfl | exact Or.inr rfl | exact CLD.zero) (And.intro hP hD) hS (lv_sub hl [0, 1, 2] rfl)
              exact keyH 6 0 0 _ _ _ (by omega) (by first | assumption | exact Or.inl rfl | exact Or.inr rfl | exact CLD.zero) (And.intro hP hD) hS (lv_sub hl [0, 1, 2] rfl)
            | succ nE ihE =>
              intro kE vE H locs ls hkE hvE hPD hS hl
              refine Kan2 hPD (fun hP hD => ?_)
              refine lv_iload_n hx hb gX12_findClocks_13.2.2.1 rfl (lv_at0 hl) ?_
              refine lv_bipush (v := 6) hx hb gX12_findClocks_13.2.2.2.1 (by decide) ?_
              refine lv_icmp_ge (tgt := 287) hx hb gX12_findClocks_13.2.2.2.2.1 (by decide) (fun c9 => absurd c9 (nI_ge (a := kE) (b := 6) (by omega) (by omega))) (fun _ => ?_)
              refine lv_iconst (v := 0) hx hb gX12_findClocks_13.2.2.2.2.2.1 (by decide) ?_
              refine lv_istore_n (lv' := [(2, .int 0), (1, .int (nI kE)), (0, .ref h0)]) hx hb gX12_findClocks_13.2.2.2.2.2.2.1 rfl hl (by decide) rfl (fun ls hl => ?_)
              have keyY : ∀ (nY kY : Nat) (vY : Nat → Int32) (H : Heap) (locs : List Loc) (ls : Array Slot), kY + nY = 6 → (FWS (KST (shf fnw 104) (VSE fnw kq) (fnw 3).toInt k6) kE kY 0 (MAT vE) (MAT vY)) → va_PD G A [(h0, oX12 nw nk mhasKept nt mtaped nr mrowMany mroundOf mroundFrom 0 nm mfromHour mtoHour ns mfrom mto msort misFault mdeep mcoded mlines nl nc nF np ntr nb mbestCost nso nsi nit nsh nsf nss nrc mtraced mdealer mnumber mwhose msize misParted), (nw, iA G 1662 fnw), (nm, iA G 36 vY)] H → va_S A s.heap H locs → lv_has ls 7 [(2, .int (nI kY)), (1, .int (nI kE)), (0, .ref h0)] → W p l e (RM 4 0 0) s m ([.ref h0] : List Value).toArray below meth c H locs 0 0 Q0 (F0 m 226 ls []) := by
                intro nY
                induction nY with
                | zero =>
                  intro kY vY H locs ls hkY hvY hPD hS hl
                  refine Kan2 hPD (fun hP hD => ?_)
                  obtain rfl : 6 = kY := by omega
                  have hl : lv_has ls 7 [(2, .int 6), (1, .int (nI kE)), (0, .ref h0)] := hl
                  refine lv_iload_n hx hb gX12_findClocks_13.2.2.2.2.2.2.2.1 rfl (lv_at0 hl) ?_
                  refine lv_bipush (v := 6) hx hb gX12_findClocks_13.2.2.2.2.2.2.2.2.1 (by decide) ?_
                  refine lv_icmp_ge (tgt := 281) hx hb gX12_findClocks_13.2.2.2.2.2.2.2.2.2 (by decide) (fun _ => ?_) (fun c9 => absurd (by decide) c9)
                  refine lv_iinc (v := nI (kE + 1)) (lv' := [(1, .int (nI (kE + 1))), (2, .int 6), (0, .ref h0)]) hx hb gX12_findClocks_17.1 hl (k := 1) rfl (nI_1 _) (by decide) rfl (fun ls hl => ?_)
                  refine lv_goto (tgt := 218) hx hb gX12_findClocks_17.2.1 (by decide) ?_
                  have hst9 : FWT (KST (shf fnw 104) (VSE fnw kq) (fnw 3).toInt k6) (kE + 1) (MAT vY) := hvY.fin (by omega)
                  exact ihE (kE + 1) vY _ _ _ (by omega) (by first | assumption | exact Or.inl rfl | exact Or.inr rfl) (And.intro hP hD) hS (lv_sub hl [0, 2] rfl)
                | succ nY ihY =>
                  intro kY vY H locs ls hkY hvY hPD hS hl
                  refine Kan2 hPD (fun hP hD => ?_)
                  refine lv_iload_n hx hb gX12_findClocks_13.2.2.2.2.2.2.2.1 rfl (lv_at0 hl) ?_
                  refine lv_bipush (v := 6) hx hb gX12_findClocks_13.2.2.2.2.2.2.2.2.1 (by decide) ?_
                  refine lv_icmp_ge (tgt := 281) hx hb gX12_findClocks_13.2.2.2.2.2.2.2.2.2 (by decide) (fun c9 => absurd c9 (nI_ge (a := kY) (b := 6) (by omega) (by omega))) (fun _ => ?_)
                  refine lv_iconst (v := 0) hx hb gX12_findClocks_14.1 (by decide) ?_
                  refine lv_istore_n (lv' := [(3, .int 0), (2, .int (nI kY)), (1, .int (nI kE)), (0, .ref h0)]) hx hb gX12_findClocks_14.2.1 rfl hl (by decide) rfl (fun ls hl => ?_)
                  have keyG : ∀ (nG kG : Nat) (vG : Nat → Int32) (H : Heap) (locs : List Loc) (ls : Array Slot), kG + nG = 6 → (FWS (KST (shf fnw 104) (VSE fnw kq) (fnw 3).toInt k6) kE kY kG (MAT vE) (MAT vG)) → va_PD G A [(h0, oX12 nw nk mhasKept nt mtaped nr mrowMany mroundOf mroundFrom 0 nm mfromHour mtoHour ns mfrom mto msort misFault mdeep mcoded mlines nl nc nF np ntr nb mbestCost nso nsi nit nsh nsf nss nrc mtraced mdealer mnumber mwhose msize misParted), (nw, iA G 1662 fnw), (nm, iA G 36 vG)] H → va_S A s.heap H locs → lv_has ls 7 [(3, .int (nI kG)), (2, .int (nI kY)), (1, .int (nI kE)), (0, .ref h0)] → W p l e (RM 4 0 0) s m ([.ref h0] : List Value).toArray below meth c H locs 0 0 Q0 (F0 m 234 ls []) := by
                    intro nG
                    induction nG with
                    | zero =>
                      intro kG vG H locs ls hkG hvG hPD hS hl
                      refine Kan2 hPD (fun hP hD => ?_)
                      obtain rfl : 6 = kG := by omega
                      have hl : lv_has ls 7 [(3, .int 6), (2, .int (nI kY)), (1, .int (nI kE)), (0, .ref h0)] := hl
                      refine lv_iload_n hx hb gX12_findClocks_14.2.2.1 rfl (lv_at0 hl) ?_
                      refine lv_bipush (v := 6) hx hb gX12_findClocks_14.2.2.2.1 (by decide) ?_
                      refine lv_icmp_ge (tgt := 275) hx hb gX12_findClocks_14.2.2.2.2.1 (by decide) (fun _ => ?_) (fun c9 => absurd (by decide) c9)
                      refine lv_iinc (v := nI (kY + 1)) (lv' := [(2, .int (nI (kY + 1))), (3, .int 6), (1, .int (nI kE)), (0, .ref h0)]) hx hb gX12_findClocks_16.2.2.2.2.2.2.2.2.1 hl (k := 1) rfl (nI_1 _) (by decide) rfl (fun ls hl => ?_)
                      refine lv_goto (tgt := 226) hx hb gX12_findClocks_16.2.2.2.2.2.2.2.2.2 (by decide) ?_
                      have hst9 : FWS (KST (shf fnw 104) (VSE fnw kq) (fnw 3).toInt k6) kE (kY + 1) 0 (MAT vE) (MAT vG) := hvG.row
                      exact ihY (kY + 1) vG _ _ _ (by omega) (by first | assumption | exact Or.inl rfl | exact Or.inr rfl | exact hvE.to) (And.intro hP hD) hS (lv_sub hl [0, 2, 3] rfl)
                    | succ nG ihG =>
                      intro kG vG H locs ls hkG hvG hPD hS hl
                      refine Kan2 hPD (fun hP hD => ?_)
                      refine lv_iload_n hx hb gX12_findClocks_14.2.2.1 rfl (lv_at0 hl) ?_
                      refine lv_bipush (v := 6) hx hb gX12_findClocks_14.2.2.2.1 (by decide) ?_
                      refine lv_icmp_ge (tgt := 275) hx hb gX12_findClocks_14.2.2.2.2.1 (by decide) (fun c9 => absurd c9 (nI_ge (a := kG) (b := 6) (by omega) (by omega))) (fun _ => ?_)
                      refine lv_aload_n hx hb gX12_findClocks_14.2.2.2.2.2.1 rfl (lv_at3 hl) ?_
                      refine lv_iload_n hx hb gX12_findClocks_14.2.2.2.2.2.2.1 rfl (lv_at1 hl) ?_
                      refine lv_iload_n hx hb gX12_findClocks_14.2.2.2.2.2.2.2.1 rfl (lv_at0 hl) ?_
                      refine lv_aload_n hx hb gX12_findClocks_14.2.2.2.2.2.2.2.2.1 rfl (lv_at3 hl) ?_
                      refine gf_X12_26 hC rfl hK hP 0 rfl rfl gX12_findClocks_14.2.2.2.2.2.2.2.2.2 ?_
                      refine lv_bipush (v := 6) hx hb gX12_findClocks_15.1 (by decide) ?_
                      refine lv_iload_n hx hb gX12_findClocks_15.2.1 rfl (lv_at1 hl) ?_
                      refine lv_imul hx hb gX12_findClocks_15.2.2.1 ?_
                      refine eqi (x1 := nI (6 * kY)) (nI_mul 6 kY) ?_
                      refine lv_iload_n hx hb gX12_findClocks_15.2.2.2.1 rfl (lv_at2 hl) ?_
                      refine lv_iadd hx hb gX12_findClocks_15.2.2.2.2.1 ?_
                      refine eqi (x1 := nI (6 * kY + kE)) (nI_add (6 * kY) kE) ?_
                      refine aldN hC hK hP 2 rfl (k := (6 * kY + kE)) (by omega) (Nat.le_of_ble_eq_true rfl) (v := vG (6 * kY + kE)) rfl gX12_findClocks_15.2.2.2.2.2.1 ?_
                      refine lv_aload_n hx hb gX12_findClocks_15.2.2.2.2.2.2.1 rfl (lv_at3 hl) ?_
                      refine gf_X12_26 hC rfl hK hP 0 rfl rfl gX12_findClocks_15.2.2.2.2.2.2.2.1 ?_
                      refine lv_bipush (v := 6) hx hb gX12_findClocks_15.2.2.2.2.2.2.2.2.1 (by decide) ?_
                      refine lv_iload_n hx hb gX12_findClocks_15.2.2.2.2.2.2.2.2.2 rfl (lv_at2 hl) ?_
                      refine lv_imul hx hb gX12_findClocks_16.1 ?_
                      refine eqi (x1 := nI (6 * kE)) (nI_mul 6 kE) ?_
                      refine lv_iload_n hx hb gX12_findClocks_16.2.1 rfl (lv_at0 hl) ?_
                      refine lv_iadd hx hb gX12_findClocks_16.2.2.1 ?_
                      refine eqi (x1 := nI (6 * kE + kG)) (nI_add (6 * kE) kG) ?_
                      refine aldN hC hK hP 2 rfl (k := (6 * kE + kG)) (by omega) (Nat.le_of_ble_eq_true rfl) (v := vG (6 * kE + kG)) rfl gX12_findClocks_16.2.2.2.1 ?_
                      refine lv_iadd hx hb gX12_findClocks_16.2.2.2.2.1 ?_
                      refine vV (wr := [(nw, iA G 1662 fnw)]) hC hK hl hP hD hS hA (m_atMostX l G h0 kY kG ((vG (6 * kY + kE)) + (vG (6 * kE + kG))) nw nk mhasKept nt mtaped nr mrowMany mroundOf mroundFrom 0 nm mfromHour mtoHour ns mfrom mto msort misFault mdeep mcoded mlines nl nc nF np ntr nb mbestCost nso nsi nit nsh nsf nss nrc mtraced mdealer mnumber mwhose msize misParted vG (by omega) (by omega)) si_X12_145 [0, 2] [1] sm_0_2 fm_0_2 nd_0_2 sm_1 nd_1 dj_0_2__1 rfl rfl rfl rfl rfl (Nat.le_of_ble_eq_true rfl) rm_4_2_4 ⟨Nat.le_of_ble_eq_true rfl, Nat.le_of_ble_eq_true rfl⟩ gX12_findClocks_16.2.2.2.2.2.1 (fun gnm6127 H locs hr6125 hP hD hS => ?_)
                      try dsimp only at hr6125
                      refine Kpdr (ws := [(nw, iA G 1662 fnw), (h0, oX12 nw nk mhasKept nt mtaped nr mrowMany mroundOf mroundFrom 0 nm mfromHour mtoHour ns mfrom mto msort misFault mdeep mcoded mlines nl nc nF np ntr nb mbestCost nso nsi nit nsh nsf nss nrc mtraced mdealer mnumber mwhose msize misParted), (nm, iA G 36 gnm6127)]) hP hD (fun hP hD => ?_)
                      have w6128 := hr6125
                      refine lv_iinc (v := nI (kG + 1)) (lv' := [(3, .int (nI (kG + 1))), (2, .int (nI kY)), (1, .int (nI kE)), (0, .ref h0)]) hx hb gX12_findClocks_16.2.2.2.2.2.2.1 hl (k := 0) rfl (nI_1 _) (by decide) rfl (fun ls hl => ?_)
                      refine lv_goto (tgt := 234) hx hb gX12_findClocks_16.2.2.2.2.2.2.2.1 (by decide) ?_
                      refine Kpds (ws' := [(h0, oX12 nw nk mhasKept nt mtaped nr mrowMany mroundOf mroundFrom 0 nm mfromHour mtoHour ns mfrom mto msort misFault mdeep mcoded mlines nl nc nF np ntr nb mbestCost nso nsi nit nsh nsf nss nrc mtraced mdealer mnumber mwhose msize misParted), (nw, iA G 1662 fnw), (nm, iA G 36 gnm6127)]) hP hD [1, 0, 2] fm_1_0_2 nd_1_0_2 sm_1_0_2 (fun hP hD => ?_)
                      have hst9 : FWS (KST (shf fnw 104) (VSE fnw kq) (fnw 3).toInt k6) kE kY (kG + 1) (MAT vE) (MAT gnm6127) := hvG.put (by omega) (by omega) (by omega) (fun x9 y9 hx9 hy9 => by rw [← hvG.sum (by omega) (by omega) (by omega)]; exact w6128 x9 y9 hx9 hy9)
                      exact ihG (kG + 1) gnm6127 _ _ _ (by omega) (by first | assumption | exact Or.inl rfl | exact Or.inr rfl) (And.intro hP hD) hS (lv_sub hl [0, 1, 2, 3] rfl)
                  exact keyG 6 0 vY _ _ _ (by omega) (by first | assumption | exact Or.inl rfl | exact Or.inr rfl) (And.intro hP hD) hS (lv_sub hl [0, 1, 2, 3] rfl)
              exact keyY 6 0 vE _ _ _ (by omega) (by first | assumption | exact Or.inl rfl | exact Or.inr rfl | exact hvE.to) (And.intro hP hD) hS (lv_sub hl [0, 1, 2] rfl)
          exact keyE 6 0 vC _ _ _ (by omega) (by first | assumption | exact Or.inl rfl | exact Or.inr rfl) (And.intro hP hD) hS (lv_sub hl [0, 1] rfl)
        | succ nC ihC =>
          intro kC vC H locs ls hkC hvC hPD hS hl
          refine Kan2 hPD (fun hP hD => ?_)
          refine lv_iload_n hx hb gX12_findClocks_3.2.2.2.2.2.2.1 rfl (lv_at0 hl) ?_
          refine lv_aload_n hx hb gX12_findClocks_3.2.2.2.2.2.2.2.1 rfl (lv_at1 hl) ?_
          refine gf_X12_9 hC rfl hK hP 0 rfl rfl gX12_findClocks_3.2.2.2.2.2.2.2.2.1 ?_
          refine lv_iconst (v := 5) hx hb gX12_findClocks_3.2.2.2.2.2.2.2.2.2 (by decide) ?_
          refine ald hC hK hP 1 rfl (vin (by decide +kernel)) (k := 5) (by decide +kernel) (v := nI kq) (ekq) gX12_findClocks_4.1 ?_
          refine lv_icmp_ge (tgt := 216) hx hb gX12_findClocks_4.2.1 (by decide) (fun c9 => absurd c9 (nI_ge (a := kC) (b := kq) (by omega) (by omega))) (fun _ => ?_)
          refine lv_aload_n hx hb gX12_findClocks_4.2.2.1 rfl (lv_at1 hl) ?_
          refine lv_iload_n hx hb gX12_findClocks_4.2.2.2.1 rfl (lv_at0 hl) ?_
          refine pV hC hK hl hP hD (m_isInX l G h0 kC nw nk mhasKept nt mtaped nr mrowMany mroundOf mroundFrom nm mfromHour mtoHour ns mfrom mto msort misFault mdeep mcoded mlines nl nc nF np ntr nb mbestCost nso nsi nit nsh nsf nss nrc mtraced mdealer mnumber mwhose msize misParted fnw (by omega)) si_X12_103 [0, 1] sm_0_1 fm_0_1 nd_0_1 rfl rfl rfl rfl rfl (Nat.le_of_ble_eq_true rfl) rm_4_2_3 ⟨by first | exact Nat.le_of_ble_eq_true rfl | exact Nat.zero_le _, by first | exact Nat.le_of_ble_eq_true rfl | exact Nat.zero_le _⟩ gX12_findClocks_4.2.2.2.2.1 (Kors (Keqa fun a6130 => ?_) (Keqa fun a6130 => ?_))
          · refine lv_if_eq (tgt := 91) hx hb gX12_findClocks_4.2.2.2.2.2.1 (by decide) (fun c9 => absurd c9 (by decide)) (fun _ => ?_)
            refine lv_aload_n hx hb gX12_findClocks_4.2.2.2.2.2.2.1 rfl (lv_at1 hl) ?_
            refine lv_iload_n hx hb gX12_findClocks_4.2.2.2.2.2.2.2.1 rfl (lv_at0 hl) ?_
            refine pV hC hK hl hP hD (m_stampsOf l G k6 h0 (nI kC) nw nk mhasKept nt mtaped nr mrowMany mroundOf mroundFrom 0 nm mfromHour mtoHour ns mfrom mto msort misFault mdeep mcoded mlines nl nc nF np ntr nb mbestCost nso nsi nit nsh nsf nss nrc mtraced mdealer mnumber mwhose msize misParted fnw (e6) (hk6)) si_X12_130 [0, 1] sm_0_1 fm_0_1 nd_0_1 rfl rfl rfl rfl rfl (Nat.le_of_ble_eq_true rfl) rm_4_2_4 ⟨by first | exact Nat.le_of_ble_eq_true rfl | exact Nat.zero_le _, by first | exact Nat.le_of_ble_eq_true rfl | exact Nat.zero_le _⟩ gX12_findClocks_4.2.2.2.2.2.2.2.2.1 (Keqr ?_)
            refine lv_goto (tgt := 92) hx hb gX12_findClocks_4.2.2.2.2.2.2.2.2.2 (by decide) ?_
            refine lv_istore_n (lv' := [(2, .int (nI (cntS fnw (nI kC) k6))), (1, .int (nI kC)), (0, .ref h0)]) hx hb gX12_findClocks_5.2.1 rfl hl (by decide) rfl (fun ls hl => ?_)
            refine lv_iconst (v := 1) hx hb gX12_findClocks_5.2.2.1 (by decide) ?_
            refine lv_istore_n (lv' := [(3, .int 1), (2, .int (nI (cntS fnw (nI kC) k6))), (1, .int (nI kC)), (0, .ref h0)]) hx hb gX12_findClocks_5.2.2.2.1 rfl hl (by decide) rfl (fun ls hl => ?_)
            have hcl9 := cntS_le fnw (nI kC) k6
            rcases Nat.eq_zero_or_pos (cntS fnw (nI kC) k6) with hz9 | hz9
            · refine lv_iload_n hx hb gX12_findClocks_5.2.2.2.2.1 rfl (lv_at0 hl) ?_
              refine lv_iload_n hx hb gX12_findClocks_5.2.2.2.2.2.1 rfl (lv_at1 hl) ?_
              refine lv_icmp_ge (tgt := 210) hx hb gX12_findClocks_5.2.2.2.2.2.2.1 (by decide) (fun _ => ?_) (fun c9 => absurd ((by rw [hz9]; decide)) c9)
              refine lv_iinc (v := nI (kC + 1)) (lv' := [(1, .int (nI (kC + 1))), (3, .int 1), (2, .int (nI (cntS fnw (nI kC) k6))), (0, .ref h0)]) hx hb gX12_findClocks_12.2.2.2.2.2.2.2.2.1 hl (k := 2) rfl (nI_1 _) (by decide) rfl (fun ls hl => ?_)
              refine lv_goto (tgt := 65) hx hb gX12_findClocks_12.2.2.2.2.2.2.2.2.2 (by decide) ?_
              have hst9 : PHI (KST (shf fnw 104) (VSE fnw kq) (fnw 3).toInt k6) (KCV fnw (VSE fnw kq) (fnw 3).toInt k6 (kC + 1) 1) (MAT vC) := hvC.paper (fun _ => by omega)
              exact ihC (kC + 1) vC _ _ _ (by omega) (by first | assumption | exact Or.inl rfl | exact Or.inr rfl) (And.intro hP hD) hS (lv_sub hl [0, 3] rfl)
            · have keyD : ∀ (nD kD : Nat) (vD : Nat → Int32) (H : Heap) (locs : List Loc) (ls : Array Slot), kD + nD = (cntS fnw (nI kC) k6) → (1 ≤ kD) → (PHI (KST (shf fnw 104) (VSE fnw kq) (fnw 3).toInt k6) (KCV fnw (VSE fnw kq) (fnw 3).toInt k6 kC kD) (MAT vD)) → va_PD G A [(h0, oX12 nw nk mhasKept nt mtaped nr mrowMany mroundOf mroundFrom 0 nm mfromHour mtoHour ns mfrom mto msort misFault mdeep mcoded mlines nl nc nF np ntr nb mbestCost nso nsi nit nsh nsf nss nrc mtraced mdealer mnumber mwhose msize misParted), (nw, iA G 1662 fnw), (nm, iA G 36 vD)] H → va_S A s.heap H locs → lv_has ls 7 [(3, .int (nI kD)), (2, .int (nI (cntS fnw (nI kC) k6))), (1, .int (nI kC)), (0, .ref h0)] → W p l e (RM 4 0 0) s m ([.ref h0] : List Value).toArray below meth c H locs 0 0 Q0 (F0 m 95 ls []) := by
                intro nD
                induction nD with
                | zero =>
                  intro kD vD H locs ls hkD hk1 hvD hPD hS hl
                  refine Kan2 hPD (fun hP hD => ?_)
                  obtain rfl : (cntS fnw (nI kC) k6) = kD := by omega
                  have hl : lv_has ls 7 [(3, .int (nI (cntS fnw (nI kC) k6))), (2, .int (nI (cntS fnw (nI kC) k6))), (1, .int (nI kC)), (0, .ref h0)] := hl
                  refine lv_iload_n hx hb gX12_findClocks_5.2.2.2.2.1 rfl (lv_at0 hl) ?_
                  refine lv_iload_n hx hb gX12_findClocks_5.2.2.2.2.2.1 rfl (lv_at1 hl) ?_
                  refine lv_icmp_ge (tgt := 210) hx hb gX12_findClocks_5.2.2.2.2.2.2.1 (by decide) (fun _ => ?_) (fun c9 => absurd (Int32.le_refl _) c9)
                  refine lv_iinc (v := nI (kC + 1)) (lv' := [(1, .int (nI (kC + 1))), (3, .int (nI (cntS fnw (nI kC) k6))), (2, .int (nI (cntS fnw (nI kC) k6))), (0, .ref h0)]) hx hb gX12_findClocks_12.2.2.2.2.2.2.2.2.1 hl (k := 2) rfl (nI_1 _) (by decide) rfl (fun ls hl => ?_)
                  refine lv_goto (tgt := 65) hx hb gX12_findClocks_12.2.2.2.2.2.2.2.2.2 (by decide) ?_
                  have hst9 : PHI (KST (shf fnw 104) (VSE fnw kq) (fnw 3).toInt k6) (KCV fnw (VSE fnw kq) (fnw 3).toInt k6 (kC + 1) 1) (MAT vD) := hvD.paper (fun _ => Nat.le_refl _)
                  exact ihC (kC + 1) vD _ _ _ (by omega) (by first | assumption | exact Or.inl rfl | exact Or.inr rfl) (And.intro hP hD) hS (lv_sub hl [0, 3] rfl)
                | succ nD ihD =>
                  intro kD vD H locs ls hkD hk1 hvD hPD hS hl
                  refine Kan2 hPD (fun hP hD => ?_)
                  refine lv_iload_n hx hb gX12_findClocks_5.2.2.2.2.1 rfl (lv_at0 hl) ?_
                  refine lv_iload_n hx hb gX12_findClocks_5.2.2.2.2.2.1 rfl (lv_at1 hl) ?_
                  refine lv_icmp_ge (tgt := 210) hx hb gX12_findClocks_5.2.2.2.2.2.2.1 (by decide) (fun c9 => absurd c9 (nI_ge (a := kD) (b := (cntS fnw (nI kC) k6)) (by omega) (by omega))) (fun _ => ?_)
                  refine lv_bipush (v := 104) hx hb gX12_findClocks_5.2.2.2.2.2.2.2.1 (by decide) ?_
                  refine lv_iconst (v := 3) hx hb gX12_findClocks_5.2.2.2.2.2.2.2.2.1 (by decide) ?_
                  refine lv_aload_n hx hb gX12_findClocks_5.2.2.2.2.2.2.2.2.2 rfl (lv_at3 hl) ?_
                  refine lv_iload_n hx hb gX12_findClocks_6.1 rfl (lv_at2 hl) ?_
                  refine lv_iload_n hx hb gX12_findClocks_6.2.1 rfl (lv_at0 hl) ?_
                  refine lv_iconst (v := 1) hx hb gX12_findClocks_6.2.2.1 (by decide) ?_
                  refine lv_isub hx hb gX12_findClocks_6.2.2.2.1 ?_
                  refine eqi (x1 := nI (kD - 1)) (nI_sb (by omega)) ?_
                  refine pV hC hK hl hP hD (m_stampAtX l G k6 h0 kC (kD - 1) nw nk mhasKept nt mtaped nr mrowMany mroundOf mroundFrom 0 nm mfromHour mtoHour ns mfrom mto msort misFault mdeep mcoded mlines nl nc nF np ntr nb mbestCost nso nsi nit nsh nsf nss nrc mtraced mdealer mnumber mwhose msize misParted fnw (e6) (hk6) (by omega)) si_X12_142 [0, 1] sm_0_1 fm_0_1 nd_0_1 rfl rfl rfl rfl rfl (Nat.le_of_ble_eq_true rfl) rm_4_2_5 ⟨by first | exact Nat.le_of_ble_eq_true rfl | exact Nat.zero_le _, by first | exact Nat.le_of_ble_eq_true rfl | exact Nat.zero_le _⟩ gX12_findClocks_6.2.2.2.2.1 (fun r6133 hr6133 => ?_)
                  obtain ⟨s9_6134, hpx6134, rfl⟩ := hr6133
                  try dsimp only at hpx6134
                  refine lv_imul hx hb gX12_findClocks_6.2.2.2.2.2.1 ?_
                  refine eqi (x1 := nI (3 * s9_6134)) (nI_mul 3 s9_6134) ?_
                  refine lv_iadd hx hb gX12_findClocks_6.2.2.2.2.2.2.1 ?_
                  refine eqi (x1 := nI (104 + 3 * s9_6134)) (nI_add 104 (3 * s9_6134)) ?_
                  refine lv_istore (lv' := [(4, .int (nI (104 + 3 * s9_6134))), (3, .int (nI kD)), (2, .int (nI (cntS fnw (nI kC) k6))), (1, .int (nI kC)), (0, .ref h0)]) hx hb gX12_findClocks_6.2.2.2.2.2.2.2.1 hl (by decide) rfl (fun ls hl => ?_)
                  refine lv_bipush (v := 104) hx hb gX12_findClocks_6.2.2.2.2.2.2.2.2.1 (by decide) ?_
                  refine lv_iconst (v := 3) hx hb gX12_findClocks_6.2.2.2.2.2.2.2.2.2 (by decide) ?_
                  refine lv_aload_n hx hb gX12_findClocks_7.1 rfl (lv_at4 hl) ?_
                  refine lv_iload_n hx hb gX12_findClocks_7.2.1 rfl (lv_at3 hl) ?_
                  refine lv_iload_n hx hb gX12_findClocks_7.2.2.1 rfl (lv_at1 hl) ?_
                  refine pV hC hK hl hP hD (m_stampAtX l G k6 h0 kC kD nw nk mhasKept nt mtaped nr mrowMany mroundOf mroundFrom 0 nm mfromHour mtoHour ns mfrom mto msort misFault mdeep mcoded mlines nl nc nF np ntr nb mbestCost nso nsi nit nsh nsf nss nrc mtraced mdealer mnumber mwhose msize misParted fnw (e6) (hk6) (by omega)) si_X12_142 [0, 1] sm_0_1 fm_0_1 nd_0_1 rfl rfl rfl rfl rfl (Nat.le_of_ble_eq_true rfl) rm_4_2_5 ⟨by first | exact Nat.le_of_ble_eq_true rfl | exact Nat.zero_le _, by first | exact Nat.le_of_ble_eq_true rfl | exact Nat.zero_le _⟩ gX12_findClocks_7.2.2.2.1 (fun r6135 hr6135 => ?_)
                  obtain ⟨s9_6136, hpx6136, rfl⟩ := hr6135
                  try dsimp only at hpx6136
                  refine lv_imul hx hb gX12_findClocks_7.2.2.2.2.1 ?_
                  refine eqi (x1 := nI (3 * s9_6136)) (nI_mul 3 s9_6136) ?_
                  refine lv_iadd hx hb gX12_findClocks_7.2.2.2.2.2.1 ?_
                  refine eqi (x1 := nI (104 + 3 * s9_6136)) (nI_add 104 (3 * s9_6136)) ?_
                  refine lv_istore (lv' := [(5, .int (nI (104 + 3 * s9_6136))), (4, .int (nI (104 + 3 * s9_6134))), (3, .int (nI kD)), (2, .int (nI (cntS fnw (nI kC) k6))), (1, .int (nI kC)), (0, .ref h0)]) hx hb gX12_findClocks_7.2.2.2.2.2.2.1 hl (by decide) rfl (fun ls hl => ?_)
                  obtain ⟨cc6137, hcc6137, ecc6137⟩ := NI.nat hN (i := 104 + 3 * s9_6134 + 1) (B := 5) (bnd_st1 (s := s9_6134) rfl (by have h9 := hpx6134.1; omega)) (by decide)
                  have hh1 : 0 ≤ (fnw (104 + 3 * s9_6134 + 2)).toInt ∧ (fnw (104 + 3 * s9_6134 + 2)).toInt ≤ 999 := NI.hour hN (by have h9 := hpx6134.1; omega)
                  have hs1b := hpx6134.1
                  obtain ⟨cc6138, hcc6138, ecc6138⟩ := NI.nat hN (i := 104 + 3 * s9_6136 + 1) (B := 5) (bnd_st1 (s := s9_6136) rfl (by have h9 := hpx6136.1; omega)) (by decide)
                  have hh2 : 0 ≤ (fnw (104 + 3 * s9_6136 + 2)).toInt ∧ (fnw (104 + 3 * s9_6136 + 2)).toInt ≤ 999 := NI.hour hN (by have h9 := hpx6136.1; omega)
                  have hs2b := hpx6136.1
                  refine lv_aload_n hx hb gX12_findClocks_7.2.2.2.2.2.2.2.1 rfl (lv_at5 hl) ?_
                  refine gf_X12_9 hC rfl hK hP 0 rfl rfl gX12_findClocks_7.2.2.2.2.2.2.2.2.1 ?_
                  refine lv_iload hx hb gX12_findClocks_7.2.2.2.2.2.2.2.2.2 (lv_at0 hl) ?_
                  refine lv_iconst (v := 2) hx hb gX12_findClocks_8.1 (by decide) ?_
                  refine lv_iadd hx hb gX12_findClocks_8.2.1 ?_
                  refine eqi (x1 := nI (104 + 3 * s9_6136 + 2)) (nI_add (104 + 3 * s9_6136) 2) ?_
                  refine aldN hC hK hP 1 rfl (k := (104 + 3 * s9_6136 + 2)) (by omega) (Nat.le_of_ble_eq_true rfl) (v := fnw (104 + 3 * s9_6136 + 2)) rfl gX12_findClocks_8.2.2.1 ?_
                  refine lv_aload_n hx hb gX12_findClocks_8.2.2.2.1 rfl (lv_at5 hl) ?_
                  refine gf_X12_9 hC rfl hK hP 0 rfl rfl gX12_findClocks_8.2.2.2.2.1 ?_
                  refine lv_iload hx hb gX12_findClocks_8.2.2.2.2.2.1 (lv_at1 hl) ?_
                  refine lv_iconst (v := 2) hx hb gX12_findClocks_8.2.2.2.2.2.2.1 (by decide) ?_
                  refine lv_iadd hx hb gX12_findClocks_8.2.2.2.2.2.2.2.1 ?_
                  refine eqi (x1 := nI (104 + 3 * s9_6134 + 2)) (nI_add (104 + 3 * s9_6134) 2) ?_
                  refine aldN hC hK hP 1 rfl (k := (104 + 3 * s9_6134 + 2)) (by omega) (Nat.le_of_ble_eq_true rfl) (v := fnw (104 + 3 * s9_6134 + 2)) rfl gX12_findClocks_8.2.2.2.2.2.2.2.2.1 ?_
                  refine lv_isub hx hb gX12_findClocks_8.2.2.2.2.2.2.2.2.2 ?_
                  refine lv_istore (lv' := [(6, .int ((fnw (104 + 3 * s9_6136 + 2)) - (fnw (104 + 3 * s9_6134 + 2)))), (5, .int (nI (104 + 3 * s9_6136))), (4, .int (nI (104 + 3 * s9_6134))), (3, .int (nI kD)), (2, .int (nI (cntS fnw (nI kC) k6))), (1, .int (nI kC)), (0, .ref h0)]) hx hb gX12_findClocks_9.1 hl (by decide) rfl (fun ls hl => ?_)
                  refine lv_aload_n hx hb gX12_findClocks_9.2.1 rfl (lv_at6 hl) ?_
                  refine lv_aload_n hx hb gX12_findClocks_9.2.2.1 rfl (lv_at6 hl) ?_
                  refine gf_X12_9 hC rfl hK hP 0 rfl rfl gX12_findClocks_9.2.2.2.1 ?_
                  refine lv_iload hx hb gX12_findClocks_9.2.2.2.2.1 (lv_at2 hl) ?_
                  refine lv_iconst (v := 1) hx hb gX12_findClocks_9.2.2.2.2.2.1 (by decide) ?_
                  refine lv_iadd hx hb gX12_findClocks_9.2.2.2.2.2.2.1 ?_
                  refine eqi (x1 := nI (104 + 3 * s9_6134 + 1)) (nI_add (104 + 3 * s9_6134) 1) ?_
                  refine aldN hC hK hP 1 rfl (k := 104 + 3 * s9_6134 + 1) (by omega) (Nat.le_of_ble_eq_true rfl) (v := nI cc6137) (ecc6137) gX12_findClocks_9.2.2.2.2.2.2.2.1 ?_
                  refine lv_aload_n hx hb gX12_findClocks_9.2.2.2.2.2.2.2.2.1 rfl (lv_at6 hl) ?_
                  refine gf_X12_9 hC rfl hK hP 0 rfl rfl gX12_findClocks_9.2.2.2.2.2.2.2.2.2 ?_
                  refine lv_iload hx hb gX12_findClocks_10.1 (lv_at1 hl) ?_
                  refine lv_iconst (v := 1) hx hb gX12_findClocks_10.2.1 (by decide) ?_
                  refine lv_iadd hx hb gX12_findClocks_10.2.2.1 ?_
                  refine eqi (x1 := nI (104 + 3 * s9_6136 + 1)) (nI_add (104 + 3 * s9_6136) 1) ?_
                  refine aldN hC hK hP 1 rfl (k := 104 + 3 * s9_6136 + 1) (by omega) (Nat.le_of_ble_eq_true rfl) (v := nI cc6138) (ecc6138) gX12_findClocks_10.2.2.2.1 ?_
                  refine lv_iload hx hb gX12_findClocks_10.2.2.2.2.1 (lv_at0 hl) ?_
                  refine vV (wr := [(nw, iA G 1662 fnw)]) hC hK hl hP hD hS hA (m_atMostX l G h0 cc6137 cc6138 ((fnw (104 + 3 * s9_6136 + 2)) - (fnw (104 + 3 * s9_6134 + 2))) nw nk mhasKept nt mtaped nr mrowMany mroundOf mroundFrom 0 nm mfromHour mtoHour ns mfrom mto msort misFault mdeep mcoded mlines nl nc nF np ntr nb mbestCost nso nsi nit nsh nsf nss nrc mtraced mdealer mnumber mwhose msize misParted vD (by omega) (by omega)) si_X12_145 [0, 2] [1] sm_0_2 fm_0_2 nd_0_2 sm_1 nd_1 dj_0_2__1 rfl rfl rfl rfl rfl (Nat.le_of_ble_eq_true rfl) rm_4_2_4 ⟨Nat.le_of_ble_eq_true rfl, Nat.le_of_ble_eq_true rfl⟩ gX12_findClocks_10.2.2.2.2.2.1 (fun gnm6141 H locs hr6139 hP hD hS => ?_)
                  try dsimp only at hr6139
                  refine Kpdr (ws := [(nw, iA G 1662 fnw), (h0, oX12 nw nk mhasKept nt mtaped nr mrowMany mroundOf mroundFrom 0 nm mfromHour mtoHour ns mfrom mto msort misFault mdeep mcoded mlines nl nc nF np ntr nb mbestCost nso nsi nit nsh nsf nss nrc mtraced mdealer mnumber mwhose msize misParted), (nm, iA G 36 gnm6141)]) hP hD (fun hP hD => ?_)
                  have w6142 := hr6139
                  refine lv_aload_n hx hb gX12_findClocks_10.2.2.2.2.2.2.1 rfl (lv_at6 hl) ?_
                  refine lv_aload_n hx hb gX12_findClocks_10.2.2.2.2.2.2.2.1 rfl (lv_at6 hl) ?_
                  refine gf_X12_9 hC rfl hK hP 1 rfl rfl gX12_findClocks_10.2.2.2.2.2.2.2.2.1 ?_
                  refine lv_iload hx hb gX12_findClocks_10.2.2.2.2.2.2.2.2.2 (lv_at1 hl) ?_
                  refine lv_iconst (v := 1) hx hb gX12_findClocks_11.1 (by decide) ?_
                  refine lv_iadd hx hb gX12_findClocks_11.2.1 ?_
                  refine eqi (x1 := nI (104 + 3 * s9_6136 + 1)) (nI_add (104 + 3 * s9_6136) 1) ?_
                  refine aldN hC hK hP 0 rfl (k := 104 + 3 * s9_6136 + 1) (by omega) (Nat.le_of_ble_eq_true rfl) (v := nI cc6138) (ecc6138) gX12_findClocks_11.2.2.1 ?_
                  refine lv_aload_n hx hb gX12_findClocks_11.2.2.2.1 rfl (lv_at6 hl) ?_
                  refine gf_X12_9 hC rfl hK hP 1 rfl rfl gX12_findClocks_11.2.2.2.2.1 ?_
                  refine lv_iload hx hb gX12_findClocks_11.2.2.2.2.2.1 (lv_at2 hl) ?_
                  refine lv_iconst (v := 1) hx hb gX12_findClocks_11.2.2.2.2.2.2.1 (by decide) ?_
                  refine lv_iadd hx hb gX12_findClocks_11.2.2.2.2.2.2.2.1 ?_
                  refine eqi (x1 := nI (104 + 3 * s9_6134 + 1)) (nI_add (104 + 3 * s9_6134) 1) ?_
                  refine aldN hC hK hP 0 rfl (k := 104 + 3 * s9_6134 + 1) (by omega) (Nat.le_of_ble_eq_true rfl) (v := nI cc6137) (ecc6137) gX12_findClocks_11.2.2.2.2.2.2.2.2.1 ?_
                  refine lv_aload_n hx hb gX12_findClocks_11.2.2.2.2.2.2.2.2.2 rfl (lv_at6 hl) ?_
                  refine gf_X12_9 hC rfl hK hP 1 rfl rfl gX12_findClocks_12.1 ?_
                  refine lv_iconst (v := 3) hx hb gX12_findClocks_12.2.1 (by decide) ?_
                  refine ald hC hK hP 0 rfl (vin (by decide +kernel)) (k := 3) (by decide +kernel) (v := fnw 3) (rfl) gX12_findClocks_12.2.2.1 ?_
                  refine lv_iload hx hb gX12_findClocks_12.2.2.2.1 (lv_at0 hl) ?_
                  refine lv_isub hx hb gX12_findClocks_12.2.2.2.2.1 ?_
                  refine vV (wr := [(nw, iA G 1662 fnw)]) hC hK hl hP hD hS hA (m_atMostX l G h0 cc6138 cc6137 ((fnw 3) - ((fnw (104 + 3 * s9_6136 + 2)) - (fnw (104 + 3 * s9_6134 + 2)))) nw nk mhasKept nt mtaped nr mrowMany mroundOf mroundFrom 0 nm mfromHour mtoHour ns mfrom mto msort misFault mdeep mcoded mlines nl nc nF np ntr nb mbestCost nso nsi nit nsh nsf nss nrc mtraced mdealer mnumber mwhose msize misParted gnm6141 (by omega) (by omega)) si_X12_145 [1, 2] [0] sm_1_2 fm_1_2 nd_1_2 sm_0 nd_0 dj_1_2__0 rfl rfl rfl rfl rfl (Nat.le_of_ble_eq_true rfl) rm_4_2_4 ⟨Nat.le_of_ble_eq_true rfl, Nat.le_of_ble_eq_true rfl⟩ gX12_findClocks_12.2.2.2.2.2.1 (fun gnm6145 H locs hr6143 hP hD hS => ?_)
                  try dsimp only at hr6143
                  refine Kpdr (ws := [(nw, iA G 1662 fnw), (h0, oX12 nw nk mhasKept nt mtaped nr mrowMany mroundOf mroundFrom 0 nm mfromHour mtoHour ns mfrom mto msort misFault mdeep mcoded mlines nl nc nF np ntr nb mbestCost nso nsi nit nsh nsf nss nrc mtraced mdealer mnumber mwhose msize misParted), (nm, iA G 36 gnm6145)]) hP hD (fun hP hD => ?_)
                  have w6146 := hr6143
                  refine lv_iinc (v := nI (kD + 1)) (lv' := [(3, .int (nI (kD + 1))), (6, .int ((fnw (104 + 3 * s9_6136 + 2)) - (fnw (104 + 3 * s9_6134 + 2)))), (5, .int (nI (104 + 3 * s9_6136))), (4, .int (nI (104 + 3 * s9_6134))), (2, .int (nI (cntS fnw (nI kC) k6))), (1, .int (nI kC)), (0, .ref h0)]) hx hb gX12_findClocks_12.2.2.2.2.2.2.1 hl (k := 3) rfl (nI_1 _) (by decide) rfl (fun ls hl => ?_)
                  refine lv_goto (tgt := 95) hx hb gX12_findClocks_12.2.2.2.2.2.2.2.1 (by decide) ?_
                  refine Kpds (ws' := [(h0, oX12 nw nk mhasKept nt mtaped nr mrowMany mroundOf mroundFrom 0 nm mfromHour mtoHour ns mfrom mto msort misFault mdeep mcoded mlines nl nc nF np ntr nb mbestCost nso nsi nit nsh nsf nss nrc mtraced mdealer mnumber mwhose msize misParted), (nw, iA G 1662 fnw), (nm, iA G 36 gnm6145)]) hP hD [1, 0, 2] fm_1_0_2 nd_1_0_2 sm_1_0_2 (fun hP hD => ?_)
                  have hst9 : PHI (KST (shf fnw 104) (VSE fnw kq) (fnw 3).toInt k6) (KCV fnw (VSE fnw kq) (fnw 3).toInt k6 kC (kD + 1)) (MAT gnm6145) := hvD.stepR hpx6134 hpx6136 hk1 (by omega) ⟨by omega, a6130⟩ ecc6137 ecc6138 (by omega) (by omega) hh1.1 hh1.2 hh2.1 hh2.2 hgp w6142 w6146
                  exact ihD (kD + 1) gnm6145 _ _ _ (by omega) (by first | assumption | exact Or.inl rfl | exact Or.inr rfl | omega) (by first | assumption | exact Or.inl rfl | exact Or.inr rfl | omega) (And.intro hP hD) hS (lv_sub hl [0, 4, 5, 6] rfl)
              exact keyD ((cntS fnw (nI kC) k6) - 1) 1 vC _ _ _ (by omega) (by first | assumption | exact Or.inl rfl | exact Or.inr rfl | omega) (by first | assumption | exact Or.inl rfl | exact Or.inr rfl | omega) (And.intro hP hD) hS (lv_sub hl [0, 1, 2, 3] rfl)
          · refine lv_if_eq (tgt := 91) hx hb gX12_findClocks_4.2.2.2.2.2.1 (by decide) (fun _ => ?_) (fun c9 => absurd (by decide) c9)
            refine lv_iconst (v := 0) hx hb gX12_findClocks_5.1 (by decide) ?_
            refine lv_istore_n (lv' := [(2, .int 0), (1, .int (nI kC)), (0, .ref h0)]) hx hb gX12_findClocks_5.2.1 rfl hl (by decide) rfl (fun ls hl => ?_)
            refine lv_iconst (v := 1) hx hb gX12_findClocks_5.2.2.1 (by decide) ?_
            refine lv_istore_n (lv' := [(3, .int 1), (2, .int 0), (1, .int (nI kC)), (0, .ref h0)]) hx hb gX12_findClocks_5.2.2.2.1 rfl hl (by decide) rfl (fun ls hl => ?_)
            refine lv_iload_n hx hb gX12_findClocks_5.2.2.2.2.1 rfl (lv_at0 hl) ?_
            refine lv_iload_n hx hb gX12_findClocks_5.2.2.2.2.2.1 rfl (lv_at1 hl) ?_
            refine lv_icmp_ge (tgt := 210) hx hb gX12_findClocks_5.2.2.2.2.2.2.1 (by decide) (fun _ => ?_) (fun c9 => absurd (by decide) c9)
            refine lv_iinc (v := nI (kC + 1)) (lv' := [(1, .int (nI (kC + 1))), (3, .int 1), (2, .int 0), (0, .ref h0)]) hx hb gX12_findClocks_12.2.2.2.2.2.2.2.2.1 hl (k := 2) rfl (nI_1 _) (by decide) rfl (fun ls hl => ?_)
            refine lv_goto (tgt := 65) hx hb gX12_findClocks_12.2.2.2.2.2.2.2.2.2 (by decide) ?_
            have hst9 : PHI (KST (shf fnw 104) (VSE fnw kq) (fnw 3).toInt k6) (KCV fnw (VSE fnw kq) (fnw 3).toInt k6 (kC + 1) 1) (MAT vC) := hvC.paper (fun h9 => absurd h9.2 a6130)
            exact ihC (kC + 1) vC _ _ _ (by omega) (by first | assumption | exact Or.inl rfl | exact Or.inr rfl) (And.intro hP hD) hS (lv_sub hl [0, 3] rfl)
      exact keyC kq 0 vA _ _ _ (by omega) (by first | assumption | exact Or.inl rfl | exact Or.inr rfl) (And.intro hP hD) hS (lv_sub hl [0, 1] rfl)
    | succ nA ihA =>
      intro kA vA H locs ls hkA hvA hPD hS hl
      refine Kan2 hPD (fun hP hD => ?_)
      refine lv_iload_n hx hb gX12_findClocks_0.2.2.1 rfl (lv_at0 hl) ?_
      refine lv_bipush (v := 6) hx hb gX12_findClocks_0.2.2.2.1 (by decide) ?_
      refine lv_icmp_ge (tgt := 63) hx hb gX12_findClocks_0.2.2.2.2.1 (by decide) (fun c9 => absurd c9 (nI_ge (a := kA) (b := 6) (by omega) (by omega))) (fun _ => ?_)
      refine lv_iconst (v := 0) hx hb gX12_findClocks_0.2.2.2.2.2.1 (by decide) ?_
      refine lv_istore_n (lv' := [(2, .int 0), (1, .int (nI kA)), (0, .ref h0)]) hx hb gX12_findClocks_0.2.2.2.2.2.2.1 rfl hl (by decide) rfl (fun ls hl => ?_)
      have keyB : ∀ (nB kB : Nat) (vB : Nat → Int32) (H : Heap) (locs : List Loc) (ls : Array Slot), kB + nB = 6 → (FRP kA kB (MAT vB)) → va_PD G A [(h0, oX12 nw nk mhasKept nt mtaped nr mrowMany mroundOf mroundFrom 0 nm mfromHour mtoHour ns mfrom mto msort misFault mdeep mcoded mlines nl nc nF np ntr nb mbestCost nso nsi nit nsh nsf nss nrc mtraced mdealer mnumber mwhose msize misParted), (nw, iA G 1662 fnw), (nm, iA G 36 vB)] H → va_S A s.heap H locs → lv_has ls 7 [(2, .int (nI kB)), (1, .int (nI kA)), (0, .ref h0)] → W p l e (RM 4 0 0) s m ([.ref h0] : List Value).toArray below meth c H locs 0 0 Q0 (F0 m 10 ls []) := by
        intro nB
        induction nB with
        | zero =>
          intro kB vB H locs ls hkB hvB hPD hS hl
          refine Kan2 hPD (fun hP hD => ?_)
          obtain rfl : 6 = kB := by omega
          have hl : lv_has ls 7 [(2, .int 6), (1, .int (nI kA)), (0, .ref h0)] := hl
          refine lv_iload_n hx hb gX12_findClocks_0.2.2.2.2.2.2.2.1 rfl (lv_at0 hl) ?_
          refine lv_bipush (v := 6) hx hb gX12_findClocks_0.2.2.2.2.2.2.2.2.1 (by decide) ?_
          refine lv_icmp_ge (tgt := 57) hx hb gX12_findClocks_0.2.2.2.2.2.2.2.2.2 (by decide) (fun _ => ?_) (fun c9 => absurd (by decide) c9)
          refine lv_iinc (v := nI (kA + 1)) (lv' := [(1, .int (nI (kA + 1))), (2, .int 6), (0, .ref h0)]) hx hb gX12_findClocks_3.2.2.1 hl (k := 1) rfl (nI_1 _) (by decide) rfl (fun ls hl => ?_)
          refine lv_goto (tgt := 2) hx hb gX12_findClocks_3.2.2.2.1 (by decide) ?_
          have hst8 : FRP (kA + 1) 0 (MAT vB) := FRP.row hvB
          exact ihA (kA + 1) vB _ _ _ (by omega) (by first | assumption | exact Or.inl rfl | exact Or.inr rfl | exact FRP.zero) (And.intro hP hD) hS (lv_sub hl [0, 2] rfl)
        | succ nB ihB =>
          intro kB vB H locs ls hkB hvB hPD hS hl
          refine Kan2 hPD (fun hP hD => ?_)
          refine lv_iload_n hx hb gX12_findClocks_0.2.2.2.2.2.2.2.1 rfl (lv_at0 hl) ?_
          refine lv_bipush (v := 6) hx hb gX12_findClocks_0.2.2.2.2.2.2.2.2.1 (by decide) ?_
          refine lv_icmp_ge (tgt := 57) hx hb gX12_findClocks_0.2.2.2.2.2.2.2.2.2 (by decide) (fun c9 => absurd c9 (nI_ge (a := kB) (b := 6) (by omega) (by omega))) (fun _ => ?_)
          refine lv_aload_n hx hb gX12_findClocks_1.1 rfl (lv_at2 hl) ?_
          refine gf_X12_26 hC rfl hK hP 0 rfl rfl gX12_findClocks_1.2.1 ?_
          refine lv_bipush (v := 6) hx hb gX12_findClocks_1.2.2.1 (by decide) ?_
          refine lv_iload_n hx hb gX12_findClocks_1.2.2.2.1 rfl (lv_at1 hl) ?_
          refine lv_imul hx hb gX12_findClocks_1.2.2.2.2.1 ?_
          refine eqi (x1 := nI (6 * kA)) (nI_mul 6 kA) ?_
          refine lv_iload_n hx hb gX12_findClocks_1.2.2.2.2.2.1 rfl (lv_at0 hl) ?_
          refine lv_iadd hx hb gX12_findClocks_1.2.2.2.2.2.2.1 ?_
          refine eqi (x1 := nI (6 * kA + kB)) (nI_add (6 * kA) kB) ?_
          refine lv_iload_n hx hb gX12_findClocks_1.2.2.2.2.2.2.2.1 rfl (lv_at1 hl) ?_
          refine lv_iload_n hx hb gX12_findClocks_1.2.2.2.2.2.2.2.2.1 rfl (lv_at0 hl) ?_
          refine lv_icmp_ne (tgt := 35) hx hb gX12_findClocks_1.2.2.2.2.2.2.2.2.2 (by decide) (fun c_28_6147 => ?_) (fun c_28_6147 => ?_)
          · refine lv_iload_n hx hb gX12_findClocks_2.2.2.1 rfl (lv_at1 hl) ?_
            refine lv_if_eq (tgt := 43) hx hb gX12_findClocks_2.2.2.2.1 (by decide) (fun c_36_6148 => ?_) (fun c_36_6148 => ?_)
            · refine lv_bipush (v := 60) hx hb gX12_findClocks_2.2.2.2.2.2.2.1 (by decide) ?_
              refine lv_goto (tgt := 50) hx hb gX12_findClocks_2.2.2.2.2.2.2.2.1 (by decide) ?_
              refine astN hC hK hP hD hS 2 (ws' := [(h0, oX12 nw nk mhasKept nt mtaped nr mrowMany mroundOf mroundFrom 0 nm mfromHour mtoHour ns mfrom mto msort misFault mdeep mcoded mlines nl nc nF np ntr nb mbestCost nso nsi nit nsh nsf nss nrc mtraced mdealer mnumber mwhose msize misParted), (nw, iA G 1662 fnw), (nm, iA G 36 (upd vB (6 * kA + kB) 60))]) rfl (k := (6 * kA + kB)) (by omega) (Nat.le_of_ble_eq_true rfl) (rfl) gX12_findClocks_2.2.2.2.2.2.2.2.2.2 (fun H locs hP hD hS => ?_)
              refine lv_iinc (v := nI (kB + 1)) (lv' := [(2, .int (nI (kB + 1))), (1, .int (nI kA)), (0, .ref h0)]) hx hb gX12_findClocks_3.1 hl (k := 0) rfl (nI_1 _) (by decide) rfl (fun ls hl => ?_)
              refine lv_goto (tgt := 10) hx hb gX12_findClocks_3.2.1 (by decide) ?_
              have n1 : kA = 0 := nI_z9 (by omega) c_36_6148
              have n3 : ¬ kA = kB := fun h9 => c_28_6147 (congrArg nI h9)
              have hst9 : FRP kA (kB + 1) (MAT (upd vB (6 * kA + kB) 60)) := FRP.set6 hvB (by omega) (by have e0 : (0 : Int32).toInt = 0 := (by decide); have e60 : (60 : Int32).toInt = 60 := (by decide); have e120 : (120 : Int32).toInt = 120 := (by decide); unfold BASW; split <;> (first | omega | (split <;> omega)))
              exact ihB (kB + 1) (upd vB (6 * kA + kB) 60) _ _ _ (by omega) (by first | assumption | exact Or.inl rfl | exact Or.inr rfl) (And.intro hP hD) hS (lv_sub hl [0, 1, 2] rfl)
            · refine lv_iload_n hx hb gX12_findClocks_2.2.2.2.2.1 rfl (lv_at0 hl) ?_
              refine lv_if_ne (tgt := 48) hx hb gX12_findClocks_2.2.2.2.2.2.1 (by decide) (fun c_40_6149 => ?_) (fun c_40_6149 => ?_)
              · refine lv_bipush (v := 120) hx hb gX12_findClocks_2.2.2.2.2.2.2.2.2.1 (by decide) ?_
                refine astN hC hK hP hD hS 2 (ws' := [(h0, oX12 nw nk mhasKept nt mtaped nr mrowMany mroundOf mroundFrom 0 nm mfromHour mtoHour ns mfrom mto msort misFault mdeep mcoded mlines nl nc nF np ntr nb mbestCost nso nsi nit nsh nsf nss nrc mtraced mdealer mnumber mwhose msize misParted), (nw, iA G 1662 fnw), (nm, iA G 36 (upd vB (6 * kA + kB) 120))]) rfl (k := (6 * kA + kB)) (by omega) (Nat.le_of_ble_eq_true rfl) (rfl) gX12_findClocks_2.2.2.2.2.2.2.2.2.2 (fun H locs hP hD hS => ?_)
                refine lv_iinc (v := nI (kB + 1)) (lv' := [(2, .int (nI (kB + 1))), (1, .int (nI kA)), (0, .ref h0)]) hx hb gX12_findClocks_3.1 hl (k := 0) rfl (nI_1 _) (by decide) rfl (fun ls hl => ?_)
                refine lv_goto (tgt := 10) hx hb gX12_findClocks_3.2.1 (by decide) ?_
                have n1 : ¬ kA = 0 := fun h9 => c_36_6148 (congrArg nI h9)
                have n2 : ¬ kB = 0 := fun h9 => c_40_6149 (congrArg nI h9)
                have n3 : ¬ kA = kB := fun h9 => c_28_6147 (congrArg nI h9)
                have hst9 : FRP kA (kB + 1) (MAT (upd vB (6 * kA + kB) 120)) := FRP.set6 hvB (by omega) (by have e0 : (0 : Int32).toInt = 0 := (by decide); have e60 : (60 : Int32).toInt = 60 := (by decide); have e120 : (120 : Int32).toInt = 120 := (by decide); unfold BASW; split <;> (first | omega | (split <;> omega)))
                exact ihB (kB + 1) (upd vB (6 * kA + kB) 120) _ _ _ (by omega) (by first | assumption | exact Or.inl rfl | exact Or.inr rfl) (And.intro hP hD) hS (lv_sub hl [0, 1, 2] rfl)
              · refine lv_bipush (v := 60) hx hb gX12_findClocks_2.2.2.2.2.2.2.1 (by decide) ?_
                refine lv_goto (tgt := 50) hx hb gX12_findClocks_2.2.2.2.2.2.2.2.1 (by decide) ?_
                refine astN hC hK hP hD hS 2 (ws' := [(h0, oX12 nw nk mhasKept nt mtaped nr mrowMany mroundOf mroundFrom 0 nm mfromHour mtoHour ns mfrom mto msort misFault mdeep mcoded mlines nl nc nF np ntr nb mbestCost nso nsi nit nsh nsf nss nrc mtraced mdealer mnumber mwhose msize misParted), (nw, iA G 1662 fnw), (nm, iA G 36 (upd vB (6 * kA + kB) 60))]) rfl (k := (6 * kA + kB)) (by omega) (Nat.le_of_ble_eq_true rfl) (rfl) gX12_findClocks_2.2.2.2.2.2.2.2.2.2 (fun H locs hP hD hS => ?_)
                refine lv_iinc (v := nI (kB + 1)) (lv' := [(2, .int (nI (kB + 1))), (1, .int (nI kA)), (0, .ref h0)]) hx hb gX12_findClocks_3.1 hl (k := 0) rfl (nI_1 _) (by decide) rfl (fun ls hl => ?_)
                refine lv_goto (tgt := 10) hx hb gX12_findClocks_3.2.1 (by decide) ?_
                have n1 : ¬ kA = 0 := fun h9 => c_36_6148 (congrArg nI h9)
                have n2 : kB = 0 := nI_z9 (by omega) c_40_6149
                have n3 : ¬ kA = kB := fun h9 => c_28_6147 (congrArg nI h9)
                have hst9 : FRP kA (kB + 1) (MAT (upd vB (6 * kA + kB) 60)) := FRP.set6 hvB (by omega) (by have e0 : (0 : Int32).toInt = 0 := (by decide); have e60 : (60 : Int32).toInt = 60 := (by decide); have e120 : (120 : Int32).toInt = 120 := (by decide); unfold BASW; split <;> (first | omega | (split <;> omega)))
                exact ihB (kB + 1) (upd vB (6 * kA + kB) 60) _ _ _ (by omega) (by first | assumption | exact Or.inl rfl | exact Or.inr rfl) (And.intro hP hD) hS (lv_sub hl [0, 1, 2] rfl)
          · refine lv_iconst (v := 0) hx hb gX12_findClocks_2.1 (by decide) ?_
            refine lv_goto (tgt := 50) hx hb gX12_findClocks_2.2.1 (by decide) ?_
            refine astN hC hK hP hD hS 2 (ws' := [(h0, oX12 nw nk mhasKept nt mtaped nr mrowMany mroundOf mroundFrom 0 nm mfromHour mtoHour ns mfrom mto msort misFault mdeep mcoded mlines nl nc nF np ntr nb mbestCost nso nsi nit nsh nsf nss nrc mtraced mdealer mnumber mwhose msize misParted), (nw, iA G 1662 fnw), (nm, iA G 36 (upd vB (6 * kA + kB) 0))]) rfl (k := (6 * kA + kB)) (by omega) (Nat.le_of_ble_eq_true rfl) (rfl) gX12_findClocks_2.2.2.2.2.2.2.2.2.2 (fun H locs hP hD hS => ?_)
            refine lv_iinc (v := nI (kB + 1)) (lv' := [(2, .int (nI (kB + 1))), (1, .int (nI kA)), (0, .ref h0)]) hx hb gX12_findClocks_3.1 hl (k := 0) rfl (nI_1 _) (by decide) rfl (fun ls hl => ?_)
            refine lv_goto (tgt := 10) hx hb gX12_findClocks_3.2.1 (by decide) ?_
            have n3 : kA = kB := (nI_eq (by omega) (by omega)).mp c_28_6147
            have hst9 : FRP kA (kB + 1) (MAT (upd vB (6 * kA + kB) 0)) := FRP.set6 hvB (by omega) (by have e0 : (0 : Int32).toInt = 0 := (by decide); have e60 : (60 : Int32).toInt = 60 := (by decide); have e120 : (120 : Int32).toInt = 120 := (by decide); unfold BASW; split <;> (first | omega | (split <;> omega)))
            exact ihB (kB + 1) (upd vB (6 * kA + kB) 0) _ _ _ (by omega) (by first | assumption | exact Or.inl rfl | exact Or.inr rfl) (And.intro hP hD) hS (lv_sub hl [0, 1, 2] rfl)
      exact keyB 6 0 vA _ _ _ (by omega) (by first | assumption | exact Or.inl rfl | exact Or.inr rfl) (And.intro hP hD) hS (lv_sub hl [0, 1, 2] rfl)
  exact keyA 6 0 fnm _ _ _ (by omega) (by first | assumption | exact Or.inl rfl | exact Or.inr rfl | exact FRP.zero) (And.intro hP hD) hS (lv_sub hl [0, 1] rfl)
def K_m_hoursC (l : Launch) (G : GG) (h0 : Nat) (jp : Nat) (la : Int32) (nw : Nat) (nk : Nat) (mhasKept : Int32) (nt : Nat) (mtaped : Int32) (nr : Nat) (mrowMany : Int32) (mroundOf : Int32) (mroundFrom : Int32) (mouts : Int32) (nm : Nat) (mfromHour : Int32) (mtoHour : Int32) (ns : Nat) (mfrom : Int32) (mto : Int32) (msort : Int32) (misFault : Int32) (mdeep : Int32) (mcoded : Int32) (mlines : Int32) (nl : Nat) (nc : Nat) (nF : Nat) (np : Nat) (ntr : Nat) (nb : Nat) (mbestCost : Int32) (nso : Nat) (nsi : Nat) (nit : Nat) (nsh : Nat) (nsf : Nat) (nss : Nat) (nrc : Nat) (mtraced : Int32) (mdealer : Int32) (mnumber : Int32) (mwhose : Int32) (msize : Int32) (misParted : Int32) (fnw : Nat → Int32) : Prop := MP l G yX12_hours cX12_hours 6 (some .boolean) 3 [.ref h0, .int (nI jp), .int 1, .int la] [(h0, oX12 nw nk mhasKept nt mtaped nr mrowMany mroundOf mroundFrom mouts nm mfromHour mtoHour ns mfrom mto msort misFault mdeep mcoded mlines nl nc nF np ntr nb mbestCost nso nsi nit nsh nsf nss nrc mtraced mdealer mnumber mwhose msize misParted), (nw, iA G 1662 fnw)] (fun r : Int32 => r = 0)
set_option maxHeartbeats 4000000 in
set_option maxRecDepth 100000 in
theorem m_hoursC (l : Launch) (G : GG) (k6 : Nat) (h0 : Nat) (jp : Nat) (la : Int32) (nw : Nat) (nk : Nat) (mhasKept : Int32) (nt : Nat) (mtaped : Int32) (nr : Nat) (mrowMany : Int32) (mroundOf : Int32) (mroundFrom : Int32) (mouts : Int32) (nm : Nat) (mfromHour : Int32) (mtoHour : Int32) (ns : Nat) (mfrom : Int32) (mto : Int32) (msort : Int32) (misFault : Int32) (mdeep : Int32) (mcoded : Int32) (mlines : Int32) (nl : Nat) (nc : Nat) (nF : Nat) (np : Nat) (ntr : Nat) (nb : Nat) (mbestCost : Int32) (nso : Nat) (nsi : Nat) (nit : Nat) (nsh : Nat) (nsf : Nat) (nss : Nat) (nrc : Nat) (mtraced : Int32) (mdealer : Int32) (mnumber : Int32) (mwhose : Int32) (msize : Int32) (misParted : Int32) (fnw : Nat → Int32) (e6 : fnw 6 = nI k6) (hk6 : k6 ≤ 24) (hjp : jp < 12) : K_m_hoursC l G h0 jp la nw nk mhasKept nt mtaped nr mrowMany mroundOf mroundFrom mouts nm mfromHour mtoHour ns mfrom mto msort misFault mdeep mcoded mlines nl nc nF np ntr nb mbestCost nso nsi nit nsh nsf nss nrc mtraced mdealer mnumber mwhose msize misParted fnw := by
  refine MP.start (by decide +kernel) (Nat.le_of_ble_eq_true rfl) ?_
  intro p e s m below meth c ls hC hK hP hD hl
  refine absQ (fun Q0 hQ0 => ?_)
  have hl : lv_has ls 6 [(0, .ref h0), (1, .int (nI jp)), (2, .int 1), (3, .int la)] := hl
  refine Kan8 hC (fun hx hb hr hml hB hown hlocks hnm => ?_)
  refine lv_aload_n hx hb gX12_hours_0.1 rfl (lv_at0 hl) ?_
  refine lv_iload_n hx hb gX12_hours_0.2.1 rfl (lv_at1 hl) ?_
  refine pV hC hK hl hP hD (m_stampsOf l G k6 h0 (nI jp) nw nk mhasKept nt mtaped nr mrowMany mroundOf mroundFrom mouts nm mfromHour mtoHour ns mfrom mto msort misFault mdeep mcoded mlines nl nc nF np ntr nb mbestCost nso nsi nit nsh nsf nss nrc mtraced mdealer mnumber mwhose msize misParted fnw (e6) (hk6)) si_X12_130 [0, 1] sm_0_1 fm_0_1 nd_0_1 rfl rfl rfl rfl rfl (Nat.le_of_ble_eq_true rfl) rm_3_2_4 ⟨by first | exact Nat.le_of_ble_eq_true rfl | exact Nat.zero_le _, by first | exact Nat.le_of_ble_eq_true rfl | exact Nat.zero_le _⟩ gX12_hours_0.2.2.1 (Keqr ?_)
  refine lv_istore (lv' := [(4, .int (nI (cntS fnw (nI jp) k6))), (0, .ref h0), (1, .int (nI jp)), (2, .int 1), (3, .int la)]) hx hb gX12_hours_0.2.2.2.1 hl (by decide) rfl (fun ls hl => ?_)
  refine lv_iload_n hx hb gX12_hours_0.2.2.2.2.1 rfl (lv_at3 hl) ?_
  refine lv_if_ne (tgt := 24) hx hb gX12_hours_0.2.2.2.2.2.1 (by decide) (fun _ => ?_) (fun c9 => absurd c9 (by decide))
  refine lv_iconst (v := 0) hx hb gX12_hours_1.2.2.1 (by decide) ?_
  refine toQ hQ0 ?_
  exact RP (v := 0) hC (rfl) (by decide +kernel) gX12_hours_1.2.2.2.1
def K_m_hoursL (l : Launch) (G : GG) (kq : Nat) (k6 : Nat) (h0 : Nat) (jp : Nat) (nw : Nat) (nk : Nat) (mhasKept : Int32) (nt : Nat) (mtaped : Int32) (nr : Nat) (mrowMany : Int32) (mroundOf : Int32) (mroundFrom : Int32) (nm : Nat) (mfromHour : Int32) (mtoHour : Int32) (ns : Nat) (mfrom : Int32) (mto : Int32) (msort : Int32) (misFault : Int32) (mdeep : Int32) (mcoded : Int32) (mlines : Int32) (nl : Nat) (nc : Nat) (nF : Nat) (np : Nat) (ntr : Nat) (nb : Nat) (mbestCost : Int32) (nso : Nat) (nsi : Nat) (nit : Nat) (nsh : Nat) (nsf : Nat) (nss : Nat) (nrc : Nat) (mtraced : Int32) (mdealer : Int32) (mnumber : Int32) (mwhose : Int32) (msize : Int32) (misParted : Int32) (fnw : Nat → Int32) (fnm : Nat → Int32) : Prop := MI l G yX12_hours cX12_hours 6 (some .boolean) 3 0 0 [.ref h0, .int (nI jp), .int 0, .int 1] [(h0, oX12 nw nk mhasKept nt mtaped nr mrowMany mroundOf mroundFrom 0 nm mfromHour mtoHour ns mfrom mto msort misFault mdeep mcoded mlines nl nc nF np ntr nb mbestCost nso nsi nit nsh nsf nss nrc mtraced mdealer mnumber mwhose msize misParted), (nw, iA G 1662 fnw), (nm, iA G 36 fnm)] (fun (r : Int32) (u : Int32 × Int32) => ((r = 1 ∧ ∃ s9, LST (shf fnw 104) k6 jp s9 ∧ VSE fnw kq jp ∧ u.1 = TR0 (shf fnw 104) fnm s9 ∧ u.2 = TR1 (shf fnw 104) fnm s9) ∨ (r = 0 ∧ (¬ VSE fnw kq jp ∨ ∀ s9, s9 < k6 → ¬ shf fnw 104 (s9 * 3 + 0) = nI jp)))) (fun u : Int32 × Int32 => [(h0, oX12 nw nk mhasKept nt mtaped nr mrowMany mroundOf mroundFrom 0 nm u.1 u.2 ns mfrom mto msort misFault mdeep mcoded mlines nl nc nF np ntr nb mbestCost nso nsi nit nsh nsf nss nrc mtraced mdealer mnumber mwhose msize misParted), (nw, iA G 1662 fnw), (nm, iA G 36 fnm)])
set_option maxHeartbeats 4000000 in
set_option maxRecDepth 100000 in
theorem m_hoursL (l : Launch) (G : GG) (kq : Nat) (k6 : Nat) (h0 : Nat) (jp : Nat) (nw : Nat) (nk : Nat) (mhasKept : Int32) (nt : Nat) (mtaped : Int32) (nr : Nat) (mrowMany : Int32) (mroundOf : Int32) (mroundFrom : Int32) (nm : Nat) (mfromHour : Int32) (mtoHour : Int32) (ns : Nat) (mfrom : Int32) (mto : Int32) (msort : Int32) (misFault : Int32) (mdeep : Int32) (mcoded : Int32) (mlines : Int32) (nl : Nat) (nc : Nat) (nF : Nat) (np : Nat) (ntr : Nat) (nb : Nat) (mbestCost : Int32) (nso : Nat) (nsi : Nat) (nit : Nat) (nsh : Nat) (nsf : Nat) (nss : Nat) (nrc : Nat) (mtraced : Int32) (mdealer : Int32) (mnumber : Int32) (mwhose : Int32) (msize : Int32) (misParted : Int32) (fnw : Nat → Int32) (fnm : Nat → Int32) (hN : NI fnw) (e6 : fnw 6 = nI k6) (hk6 : k6 ≤ 24) (ekq : fnw 5 = nI kq) (hjp : jp < kq) (hkq : kq ≤ 12) : K_m_hoursL l G kq k6 h0 jp nw nk mhasKept nt mtaped nr mrowMany mroundOf mroundFrom nm mfromHour mtoHour ns mfrom mto msort misFault mdeep mcoded mlines nl nc nF np ntr nb mbestCost nso nsi nit nsh nsf nss nrc mtraced mdealer mnumber mwhose msize misParted fnw fnm := by
  refine MI.start (by decide +kernel) (Nat.le_of_ble_eq_true rfl) ?_
  intro p e s m below meth c A ls hC hK hP hD hS hA hl
  refine absQ (fun Q0 hQ0 => ?_)
  have hl : lv_has ls 6 [(0, .ref h0), (1, .int (nI jp)), (2, .int 0), (3, .int 1)] := hl
  refine Kan8 hC (fun hx hb hr hml hB hown hlocks hnm => ?_)
  refine lv_aload_n hx hb gX12_hours_0.1 rfl (lv_at0 hl) ?_
  refine lv_iload_n hx hb gX12_hours_0.2.1 rfl (lv_at1 hl) ?_
  refine pV hC hK hl hP hD (m_stampsOf l G k6 h0 (nI jp) nw nk mhasKept nt mtaped nr mrowMany mroundOf mroundFrom 0 nm mfromHour mtoHour ns mfrom mto msort misFault mdeep mcoded mlines nl nc nF np ntr nb mbestCost nso nsi nit nsh nsf nss nrc mtraced mdealer mnumber mwhose msize misParted fnw (e6) (hk6)) si_X12_130 [0, 1] sm_0_1 fm_0_1 nd_0_1 rfl rfl rfl rfl rfl (Nat.le_of_ble_eq_true rfl) rm_3_2_4 ⟨by first | exact Nat.le_of_ble_eq_true rfl | exact Nat.zero_le _, by first | exact Nat.le_of_ble_eq_true rfl | exact Nat.zero_le _⟩ gX12_hours_0.2.2.1 (Keqr ?_)
  refine lv_istore (lv' := [(4, .int (nI (cntS fnw (nI jp) k6))), (0, .ref h0), (1, .int (nI jp)), (2, .int 0), (3, .int 1)]) hx hb gX12_hours_0.2.2.2.1 hl (by decide) rfl (fun ls hl => ?_)
  refine lv_iload_n hx hb gX12_hours_0.2.2.2.2.1 rfl (lv_at3 hl) ?_
  refine lv_if_ne (tgt := 24) hx hb gX12_hours_0.2.2.2.2.2.1 (by decide) (fun c9 => absurd (by decide) c9) (fun _ => ?_)
  refine lv_iload hx hb gX12_hours_0.2.2.2.2.2.2.1 (lv_at0 hl) ?_
  refine lv_if_eq (tgt := 24) hx hb gX12_hours_0.2.2.2.2.2.2.2.1 (by decide) (fun c_13_6154 => ?_) (fun c_13_6154 => ?_)
  · refine lv_iconst (v := 0) hx hb gX12_hours_1.2.2.1 (by decide) ?_
    refine toQ hQ0 ?_
    exact RI (v := 0) hC hP hD hS [0, 1, 2] (mfromHour, mtoHour) rfl rfl (by decide) (Or.inr ⟨rfl, Or.inr (cntS_no (nI_z9 (by have h9 := cntS_le fnw (nI jp) k6; omega) c_13_6154))⟩) (by decide +kernel) gX12_hours_1.2.2.2.1
  · have hcp9 := nI_nz c_13_6154
    have hcl9 := cntS_le fnw (nI jp) k6
    refine lv_aload_n hx hb gX12_hours_0.2.2.2.2.2.2.2.2.1 rfl (lv_at1 hl) ?_
    refine lv_iload_n hx hb gX12_hours_0.2.2.2.2.2.2.2.2.2 rfl (lv_at2 hl) ?_
    refine pV hC hK hl hP hD (m_isInX l G h0 jp nw nk mhasKept nt mtaped nr mrowMany mroundOf mroundFrom nm mfromHour mtoHour ns mfrom mto msort misFault mdeep mcoded mlines nl nc nF np ntr nb mbestCost nso nsi nit nsh nsf nss nrc mtraced mdealer mnumber mwhose msize misParted fnw (by omega)) si_X12_103 [0, 1] sm_0_1 fm_0_1 nd_0_1 rfl rfl rfl rfl rfl (Nat.le_of_ble_eq_true rfl) rm_3_2_3 ⟨by first | exact Nat.le_of_ble_eq_true rfl | exact Nat.zero_le _, by first | exact Nat.le_of_ble_eq_true rfl | exact Nat.zero_le _⟩ gX12_hours_1.1 (Kors (Keqa fun a6156 => ?_) (Keqa fun a6156 => ?_))
    · refine lv_if_ne (tgt := 26) hx hb gX12_hours_1.2.1 (by decide) (fun _ => ?_) (fun c9 => absurd c9 (by decide))
      refine lv_bipush (v := 104) hx hb gX12_hours_1.2.2.2.2.1 (by decide) ?_
      refine lv_iconst (v := 3) hx hb gX12_hours_1.2.2.2.2.2.1 (by decide) ?_
      refine lv_aload_n hx hb gX12_hours_1.2.2.2.2.2.2.1 rfl (lv_at1 hl) ?_
      refine lv_iload_n hx hb gX12_hours_1.2.2.2.2.2.2.2.1 rfl (lv_at2 hl) ?_
      refine lv_iload_n hx hb gX12_hours_1.2.2.2.2.2.2.2.2.1 rfl (lv_at4 hl) ?_
      refine lv_if_eq (tgt := 42) hx hb gX12_hours_1.2.2.2.2.2.2.2.2.2 (by decide) (fun c9 => absurd c9 (by decide)) (fun _ => ?_)
      refine lv_iload hx hb gX12_hours_2.1 (lv_at0 hl) ?_
      refine lv_iconst (v := 1) hx hb gX12_hours_2.2.1 (by decide) ?_
      refine lv_isub hx hb gX12_hours_2.2.2.1 ?_
      refine eqi (x1 := nI ((cntS fnw (nI jp) k6) - 1)) (nI_sb (by omega)) ?_
      refine lv_goto (tgt := 43) hx hb gX12_hours_2.2.2.2.1 (by decide) ?_
      refine pV hC hK hl hP hD (m_stampAtX l G k6 h0 jp ((cntS fnw (nI jp) k6) - 1) nw nk mhasKept nt mtaped nr mrowMany mroundOf mroundFrom 0 nm mfromHour mtoHour ns mfrom mto msort misFault mdeep mcoded mlines nl nc nF np ntr nb mbestCost nso nsi nit nsh nsf nss nrc mtraced mdealer mnumber mwhose msize misParted fnw (e6) (hk6) (by omega)) si_X12_142 [0, 1] sm_0_1 fm_0_1 nd_0_1 rfl rfl rfl rfl rfl (Nat.le_of_ble_eq_true rfl) rm_3_2_5 ⟨by first | exact Nat.le_of_ble_eq_true rfl | exact Nat.zero_le _, by first | exact Nat.le_of_ble_eq_true rfl | exact Nat.zero_le _⟩ gX12_hours_2.2.2.2.2.2.1 (fun r6157 hr6157 => ?_)
      obtain ⟨s9_6158, hpx6158, rfl⟩ := hr6157
      try dsimp only at hpx6158
      refine lv_imul hx hb gX12_hours_2.2.2.2.2.2.2.1 ?_
      refine eqi (x1 := nI (3 * s9_6158)) (nI_mul 3 s9_6158) ?_
      refine lv_iadd hx hb gX12_hours_2.2.2.2.2.2.2.2.1 ?_
      refine eqi (x1 := nI (104 + 3 * s9_6158)) (nI_add 104 (3 * s9_6158)) ?_
      refine lv_istore (lv' := [(5, .int (nI (104 + 3 * s9_6158))), (4, .int (nI (cntS fnw (nI jp) k6))), (0, .ref h0), (1, .int (nI jp)), (2, .int 0), (3, .int 1)]) hx hb gX12_hours_2.2.2.2.2.2.2.2.2.1 hl (by decide) rfl (fun ls hl => ?_)
      have hs9b := hpx6158.1
      obtain ⟨cc6159, hcc6159, ecc6159⟩ := NI.nat hN (i := 104 + 3 * s9_6158 + 1) (B := 5) (bnd_st1 (s := s9_6158) rfl (by omega)) (by decide)
      refine lv_aload_n hx hb gX12_hours_2.2.2.2.2.2.2.2.2.2 rfl (lv_at2 hl) ?_
      refine lv_aload_n hx hb gX12_hours_3.1 rfl (lv_at2 hl) ?_
      refine gf_X12_9 hC rfl hK hP 0 rfl rfl gX12_hours_3.2.1 ?_
      refine lv_iload hx hb gX12_hours_3.2.2.1 (lv_at0 hl) ?_
      refine lv_iconst (v := 2) hx hb gX12_hours_3.2.2.2.1 (by decide) ?_
      refine lv_iadd hx hb gX12_hours_3.2.2.2.2.1 ?_
      refine eqi (x1 := nI (104 + 3 * s9_6158 + 2)) (nI_add (104 + 3 * s9_6158) 2) ?_
      refine aldN hC hK hP 1 rfl (k := (104 + 3 * s9_6158 + 2)) (by omega) (Nat.le_of_ble_eq_true rfl) (v := fnw (104 + 3 * s9_6158 + 2)) rfl gX12_hours_3.2.2.2.2.2.1 ?_
      refine lv_aload_n hx hb gX12_hours_3.2.2.2.2.2.2.1 rfl (lv_at2 hl) ?_
      refine lv_aload_n hx hb gX12_hours_3.2.2.2.2.2.2.2.1 rfl (lv_at2 hl) ?_
      refine gf_X12_9 hC rfl hK hP 0 rfl rfl gX12_hours_3.2.2.2.2.2.2.2.2.1 ?_
      refine lv_iload hx hb gX12_hours_3.2.2.2.2.2.2.2.2.2 (lv_at0 hl) ?_
      refine lv_iconst (v := 1) hx hb gX12_hours_4.1 (by decide) ?_
      refine lv_iadd hx hb gX12_hours_4.2.1 ?_
      refine eqi (x1 := nI (104 + 3 * s9_6158 + 1)) (nI_add (104 + 3 * s9_6158) 1) ?_
      refine aldN hC hK hP 1 rfl (k := 104 + 3 * s9_6158 + 1) (by omega) (Nat.le_of_ble_eq_true rfl) (v := nI cc6159) (ecc6159) gX12_hours_4.2.2.1 ?_
      refine pV hC hK hl hP hD (m_greatest l G h0 cc6159 nw nk mhasKept nt mtaped nr mrowMany mroundOf mroundFrom 0 nm mfromHour mtoHour ns mfrom mto msort misFault mdeep mcoded mlines nl nc nF np ntr nb mbestCost nso nsi nit nsh nsf nss nrc mtraced mdealer mnumber mwhose msize misParted fnm (by omega)) si_X12_155 [0, 2] sm_0_2 fm_0_2 nd_0_2 rfl rfl rfl rfl rfl (Nat.le_of_ble_eq_true rfl) rm_3_1_2 ⟨by first | exact Nat.le_of_ble_eq_true rfl | exact Nat.zero_le _, by first | exact Nat.le_of_ble_eq_true rfl | exact Nat.zero_le _⟩ gX12_hours_4.2.2.2.1 (Keqr ?_)
      refine lv_isub hx hb gX12_hours_4.2.2.2.2.1 ?_
      refine pf_X12_161 hC rfl hK hP hD hS 0 (ws' := [(h0, oX12 nw nk mhasKept nt mtaped nr mrowMany mroundOf mroundFrom 0 nm ((fnw (104 + 3 * s9_6158 + 2)) - (fnm cc6159)) mtoHour ns mfrom mto msort misFault mdeep mcoded mlines nl nc nF np ntr nb mbestCost nso nsi nit nsh nsf nss nrc mtraced mdealer mnumber mwhose msize misParted), (nw, iA G 1662 fnw), (nm, iA G 36 fnm)]) rfl (Nat.le_of_ble_eq_true rfl) rfl rfl rfl gX12_hours_4.2.2.2.2.2.1 (fun H locs hP hD hS => ?_)
      refine lv_aload_n hx hb gX12_hours_4.2.2.2.2.2.2.1 rfl (lv_at2 hl) ?_
      refine lv_aload_n hx hb gX12_hours_4.2.2.2.2.2.2.2.1 rfl (lv_at2 hl) ?_
      refine gf_X12_9 hC rfl hK hP 0 rfl rfl gX12_hours_4.2.2.2.2.2.2.2.2.1 ?_
      refine lv_iload hx hb gX12_hours_4.2.2.2.2.2.2.2.2.2 (lv_at0 hl) ?_
      refine lv_iconst (v := 2) hx hb gX12_hours_5.1 (by decide) ?_
      refine lv_iadd hx hb gX12_hours_5.2.1 ?_
      refine eqi (x1 := nI (104 + 3 * s9_6158 + 2)) (nI_add (104 + 3 * s9_6158) 2) ?_
      refine aldN hC hK hP 1 rfl (k := (104 + 3 * s9_6158 + 2)) (by omega) (Nat.le_of_ble_eq_true rfl) (v := fnw (104 + 3 * s9_6158 + 2)) rfl gX12_hours_5.2.2.1 ?_
      refine lv_aload_n hx hb gX12_hours_5.2.2.2.1 rfl (lv_at2 hl) ?_
      refine lv_aload_n hx hb gX12_hours_5.2.2.2.2.1 rfl (lv_at2 hl) ?_
      refine gf_X12_9 hC rfl hK hP 0 rfl rfl gX12_hours_5.2.2.2.2.2.1 ?_
      refine lv_iload hx hb gX12_hours_5.2.2.2.2.2.2.1 (lv_at0 hl) ?_
      refine lv_iconst (v := 1) hx hb gX12_hours_5.2.2.2.2.2.2.2.1 (by decide) ?_
      refine lv_iadd hx hb gX12_hours_5.2.2.2.2.2.2.2.2.1 ?_
      refine eqi (x1 := nI (104 + 3 * s9_6158 + 1)) (nI_add (104 + 3 * s9_6158) 1) ?_
      refine aldN hC hK hP 1 rfl (k := 104 + 3 * s9_6158 + 1) (by omega) (Nat.le_of_ble_eq_true rfl) (v := nI cc6159) (ecc6159) gX12_hours_5.2.2.2.2.2.2.2.2.2 ?_
      refine pV hC hK hl hP hD (m_least l G h0 cc6159 nw nk mhasKept nt mtaped nr mrowMany mroundOf mroundFrom 0 nm ((fnw (104 + 3 * s9_6158 + 2)) - (fnm cc6159)) mtoHour ns mfrom mto msort misFault mdeep mcoded mlines nl nc nF np ntr nb mbestCost nso nsi nit nsh nsf nss nrc mtraced mdealer mnumber mwhose msize misParted fnm (by omega)) si_X12_158 [0, 2] sm_0_2 fm_0_2 nd_0_2 rfl rfl rfl rfl rfl (Nat.le_of_ble_eq_true rfl) rm_3_1_2 ⟨by first | exact Nat.le_of_ble_eq_true rfl | exact Nat.zero_le _, by first | exact Nat.le_of_ble_eq_true rfl | exact Nat.zero_le _⟩ gX12_hours_6.1 (Keqr ?_)
      refine lv_isub hx hb gX12_hours_6.2.1 ?_
      refine pf_X12_164 hC rfl hK hP hD hS 0 (ws' := [(h0, oX12 nw nk mhasKept nt mtaped nr mrowMany mroundOf mroundFrom 0 nm ((fnw (104 + 3 * s9_6158 + 2)) - (fnm cc6159)) ((fnw (104 + 3 * s9_6158 + 2)) - (-(fnm (6 * cc6159)))) ns mfrom mto msort misFault mdeep mcoded mlines nl nc nF np ntr nb mbestCost nso nsi nit nsh nsf nss nrc mtraced mdealer mnumber mwhose msize misParted), (nw, iA G 1662 fnw), (nm, iA G 36 fnm)]) rfl (Nat.le_of_ble_eq_true rfl) rfl rfl rfl gX12_hours_6.2.2.1 (fun H locs hP hD hS => ?_)
      refine lv_iconst (v := 1) hx hb gX12_hours_6.2.2.2.1 (by decide) ?_
      refine toQ hQ0 ?_
      exact RI (v := 1) hC hP hD hS [0, 1, 2] ((fnw (104 + 3 * s9_6158 + 2)) - (fnm cc6159), (fnw (104 + 3 * s9_6158 + 2)) - (-(fnm (6 * cc6159)))) rfl rfl (by decide) (Or.inl ⟨rfl, _, hpx6158.lst (by omega), ⟨by omega, a6156⟩, TR0.mk ecc6159 (by omega), TR1.mk ecc6159 (by omega)⟩) (by decide +kernel) gX12_hours_6.2.2.2.2
    · refine lv_if_ne (tgt := 26) hx hb gX12_hours_1.2.1 (by decide) (fun c9 => absurd (by decide) c9) (fun _ => ?_)
      refine lv_iconst (v := 0) hx hb gX12_hours_1.2.2.1 (by decide) ?_
      refine toQ hQ0 ?_
      exact RI (v := 0) hC hP hD hS [0, 1, 2] (mfromHour, mtoHour) rfl rfl (by decide) (Or.inr ⟨rfl, Or.inl (fun h9 => a6156 h9.2)⟩) (by decide +kernel) gX12_hours_1.2.2.2.1
def K_m_hoursF (l : Launch) (G : GG) (kq : Nat) (k6 : Nat) (h0 : Nat) (jp : Nat) (nw : Nat) (nk : Nat) (mhasKept : Int32) (nt : Nat) (mtaped : Int32) (nr : Nat) (mrowMany : Int32) (mroundOf : Int32) (mroundFrom : Int32) (nm : Nat) (mfromHour : Int32) (mtoHour : Int32) (ns : Nat) (mfrom : Int32) (mto : Int32) (msort : Int32) (misFault : Int32) (mdeep : Int32) (mcoded : Int32) (mlines : Int32) (nl : Nat) (nc : Nat) (nF : Nat) (np : Nat) (ntr : Nat) (nb : Nat) (mbestCost : Int32) (nso : Nat) (nsi : Nat) (nit : Nat) (nsh : Nat) (nsf : Nat) (nss : Nat) (nrc : Nat) (mtraced : Int32) (mdealer : Int32) (mnumber : Int32) (mwhose : Int32) (msize : Int32) (misParted : Int32) (fnw : Nat → Int32) (fnm : Nat → Int32) : Prop := MI l G yX12_hours cX12_hours 6 (some .boolean) 3 0 0 [.ref h0, .int (nI jp), .int 0, .int 0] [(h0, oX12 nw nk mhasKept nt mtaped nr mrowMany mroundOf mroundFrom 0 nm mfromHour mtoHour ns mfrom mto msort misFault mdeep mcoded mlines nl nc nF np ntr nb mbestCost nso nsi nit nsh nsf nss nrc mtraced mdealer mnumber mwhose msize misParted), (nw, iA G 1662 fnw), (nm, iA G 36 fnm)] (fun (r : Int32) (u : Int32 × Int32) => ((r = 1 ∧ ∃ s9, FST (shf fnw 104) k6 jp s9 ∧ VSE fnw kq jp ∧ u.1 = TR0 (shf fnw 104) fnm s9 ∧ u.2 = TR1 (shf fnw 104) fnm s9) ∨ (r = 0 ∧ (¬ VSE fnw kq jp ∨ ∀ s9, s9 < k6 → ¬ shf fnw 104 (s9 * 3 + 0) = nI jp)))) (fun u : Int32 × Int32 => [(h0, oX12 nw nk mhasKept nt mtaped nr mrowMany mroundOf mroundFrom 0 nm u.1 u.2 ns mfrom mto msort misFault mdeep mcoded mlines nl nc nF np ntr nb mbestCost nso nsi nit nsh nsf nss nrc mtraced mdealer mnumber mwhose msize misParted), (nw, iA G 1662 fnw), (nm, iA G 36 fnm)])
set_option maxHeartbeats 4000000 in
set_option maxRecDepth 100000 in
theorem m_hoursF (l : Launch) (G : GG) (kq : Nat) (k6 : Nat) (h0 : Nat) (jp : Nat) (nw : Nat) (nk : Nat) (mhasKept : Int32) (nt : Nat) (mtaped : Int32) (nr : Nat) (mrowMany : Int32) (mroundOf : Int32) (mroundFrom : Int32) (nm : Nat) (mfromHour : Int32) (mtoHour : Int32) (ns : Nat) (mfrom : Int32) (mto : Int32) (msort : Int32) (misFault : Int32) (mdeep : Int32) (mcoded : Int32) (mlines : Int32) (nl : Nat) (nc : Nat) (nF : Nat) (np : Nat) (ntr : Nat) (nb : Nat) (mbestCost : Int32) (nso : Nat) (nsi : Nat) (nit : Nat) (nsh : Nat) (nsf : Nat) (nss : Nat) (nrc : Nat) (mtraced : Int32) (mdealer : Int32) (mnumber : Int32) (mwhose : Int32) (msize : Int32) (misParted : Int32) (fnw : Nat → Int32) (fnm : Nat → Int32) (hN : NI fnw) (e6 : fnw 6 = nI k6) (hk6 : k6 ≤ 24) (ekq : fnw 5 = nI kq) (hjp : jp < kq) (hkq : kq ≤ 12) : K_m_hoursF l G kq k6 h0 jp nw nk mhasKept nt mtaped nr mrowMany mroundOf mroundFrom nm mfromHour mtoHour ns mfrom mto msort misFault mdeep mcoded mlines nl nc nF np ntr nb mbestCost nso nsi nit nsh nsf nss nrc mtraced mdealer mnumber mwhose msize misParted fnw fnm := by
  refine MI.start (by decide +kernel) (Nat.le_of_ble_eq_true rfl) ?_
  intro p e s m below meth c A ls hC hK hP hD hS hA hl
  refine absQ (fun Q0 hQ0 => ?_)
  have hl : lv_has ls 6 [(0, .ref h0), (1, .int (nI jp)), (2, .int 0), (3, .int 0)] := hl
  refine Kan8 hC (fun hx hb hr hml hB hown hlocks hnm => ?_)
  refine lv_aload_n hx hb gX12_hours_0.1 rfl (lv_at0 hl) ?_
  refine lv_iload_n hx hb gX12_hours_0.2.1 rfl (lv_at1 hl) ?_
  refine pV hC hK hl hP hD (m_stampsOf l G k6 h0 (nI jp) nw nk mhasKept nt mtaped nr mrowMany mroundOf mroundFrom 0 nm mfromHour mtoHour ns mfrom mto msort misFault mdeep mcoded mlines nl nc nF np ntr nb mbestCost nso nsi nit nsh nsf nss nrc mtraced mdealer mnumber mwhose msize misParted fnw (e6) (hk6)) si_X12_130 [0, 1] sm_0_1 fm_0_1 nd_0_1 rfl rfl rfl rfl rfl (Nat.le_of_ble_eq_true rfl) rm_3_2_4 ⟨by first | exact Nat.le_of_ble_eq_true rfl | exact Nat.zero_le _, by first | exact Nat.le_of_ble_eq_true rfl | exact Nat.zero_le _⟩ gX12_hours_0.2.2.1 (Keqr ?_)
  refine lv_istore (lv' := [(4, .int (nI (cntS fnw (nI jp) k6))), (0, .ref h0), (1, .int (nI jp)), (2, .int 0), (3, .int 0)]) hx hb gX12_hours_0.2.2.2.1 hl (by decide) rfl (fun ls hl => ?_)
  refine lv_iload_n hx hb gX12_hours_0.2.2.2.2.1 rfl (lv_at3 hl) ?_
  refine lv_if_ne (tgt := 24) hx hb gX12_hours_0.2.2.2.2.2.1 (by decide) (fun c9 => absurd (by decide) c9) (fun _ => ?_)
  refine lv_iload hx hb gX12_hours_0.2.2.2.2.2.2.1 (lv_at0 hl) ?_
  refine lv_if_eq (tgt := 24) hx hb gX12_hours_0.2.2.2.2.2.2.2.1 (by decide) (fun c_13_6166 => ?_) (fun c_13_6166 => ?_)
  · refine lv_iconst (v := 0) hx hb gX12_hours_1.2.2.1 (by decide) ?_
    refine toQ hQ0 ?_
    exact RI (v := 0) hC hP hD hS [0, 1, 2] (mfromHour, mtoHour) rfl rfl (by decide) (Or.inr ⟨rfl, Or.inr (cntS_no (nI_z9 (by have h9 := cntS_le fnw (nI jp) k6; omega) c_13_6166))⟩) (by decide +kernel) gX12_hours_1.2.2.2.1
  · have hcp9 := nI_nz c_13_6166
    have hcl9 := cntS_le fnw (nI jp) k6
    refine lv_aload_n hx hb gX12_hours_0.2.2.2.2.2.2.2.2.1 rfl (lv_at1 hl) ?_
    refine lv_iload_n hx hb gX12_hours_0.2.2.2.2.2.2.2.2.2 rfl (lv_at2 hl) ?_
    refine pV hC hK hl hP hD (m_isInX l G h0 jp nw nk mhasKept nt mtaped nr mrowMany mroundOf mroundFrom nm mfromHour mtoHour ns mfrom mto msort misFault mdeep mcoded mlines nl nc nF np ntr nb mbestCost nso nsi nit nsh nsf nss nrc mtraced mdealer mnumber mwhose msize misParted fnw (by omega)) si_X12_103 [0, 1] sm_0_1 fm_0_1 nd_0_1 rfl rfl rfl rfl rfl (Nat.le_of_ble_eq_true rfl) rm_3_2_3 ⟨by first | exact Nat.le_of_ble_eq_true rfl | exact Nat.zero_le _, by first | exact Nat.le_of_ble_eq_true rfl | exact Nat.zero_le _⟩ gX12_hours_1.1 (Kors (Keqa fun a6168 => ?_) (Keqa fun a6168 => ?_))
    · refine lv_if_ne (tgt := 26) hx hb gX12_hours_1.2.1 (by decide) (fun _ => ?_) (fun c9 => absurd c9 (by decide))
      refine lv_bipush (v := 104) hx hb gX12_hours_1.2.2.2.2.1 (by decide) ?_
      refine lv_iconst (v := 3) hx hb gX12_hours_1.2.2.2.2.2.1 (by decide) ?_
      refine lv_aload_n hx hb gX12_hours_1.2.2.2.2.2.2.1 rfl (lv_at1 hl) ?_
      refine lv_iload_n hx hb gX12_hours_1.2.2.2.2.2.2.2.1 rfl (lv_at2 hl) ?_
      refine lv_iload_n hx hb gX12_hours_1.2.2.2.2.2.2.2.2.1 rfl (lv_at4 hl) ?_
      refine lv_if_eq (tgt := 42) hx hb gX12_hours_1.2.2.2.2.2.2.2.2.2 (by decide) (fun _ => ?_) (fun c9 => absurd (by decide) c9)
      refine lv_iconst (v := 0) hx hb gX12_hours_2.2.2.2.2.1 (by decide) ?_
      refine pV hC hK hl hP hD (m_stampAtX l G k6 h0 jp 0 nw nk mhasKept nt mtaped nr mrowMany mroundOf mroundFrom 0 nm mfromHour mtoHour ns mfrom mto msort misFault mdeep mcoded mlines nl nc nF np ntr nb mbestCost nso nsi nit nsh nsf nss nrc mtraced mdealer mnumber mwhose msize misParted fnw (e6) (hk6) (by omega)) si_X12_142 [0, 1] sm_0_1 fm_0_1 nd_0_1 rfl rfl rfl rfl rfl (Nat.le_of_ble_eq_true rfl) rm_3_2_5 ⟨by first | exact Nat.le_of_ble_eq_true rfl | exact Nat.zero_le _, by first | exact Nat.le_of_ble_eq_true rfl | exact Nat.zero_le _⟩ gX12_hours_2.2.2.2.2.2.1 (fun r6169 hr6169 => ?_)
      obtain ⟨s9_6170, hpx6170, rfl⟩ := hr6169
      try dsimp only at hpx6170
      refine lv_imul hx hb gX12_hours_2.2.2.2.2.2.2.1 ?_
      refine eqi (x1 := nI (3 * s9_6170)) (nI_mul 3 s9_6170) ?_
      refine lv_iadd hx hb gX12_hours_2.2.2.2.2.2.2.2.1 ?_
      refine eqi (x1 := nI (104 + 3 * s9_6170)) (nI_add 104 (3 * s9_6170)) ?_
      refine lv_istore (lv' := [(5, .int (nI (104 + 3 * s9_6170))), (4, .int (nI (cntS fnw (nI jp) k6))), (0, .ref h0), (1, .int (nI jp)), (2, .int 0), (3, .int 0)]) hx hb gX12_hours_2.2.2.2.2.2.2.2.2.1 hl (by decide) rfl (fun ls hl => ?_)
      have hs9b := hpx6170.1
      obtain ⟨cc6171, hcc6171, ecc6171⟩ := NI.nat hN (i := 104 + 3 * s9_6170 + 1) (B := 5) (bnd_st1 (s := s9_6170) rfl (by omega)) (by decide)
      refine lv_aload_n hx hb gX12_hours_2.2.2.2.2.2.2.2.2.2 rfl (lv_at2 hl) ?_
      refine lv_aload_n hx hb gX12_hours_3.1 rfl (lv_at2 hl) ?_
      refine gf_X12_9 hC rfl hK hP 0 rfl rfl gX12_hours_3.2.1 ?_
      refine lv_iload hx hb gX12_hours_3.2.2.1 (lv_at0 hl) ?_
      refine lv_iconst (v := 2) hx hb gX12_hours_3.2.2.2.1 (by decide) ?_
      refine lv_iadd hx hb gX12_hours_3.2.2.2.2.1 ?_
      refine eqi (x1 := nI (104 + 3 * s9_6170 + 2)) (nI_add (104 + 3 * s9_6170) 2) ?_
      refine aldN hC hK hP 1 rfl (k := (104 + 3 * s9_6170 + 2)) (by omega) (Nat.le_of_ble_eq_true rfl) (v := fnw (104 + 3 * s9_6170 + 2)) rfl gX12_hours_3.2.2.2.2.2.1 ?_
      refine lv_aload_n hx hb gX12_hours_3.2.2.2.2.2.2.1 rfl (lv_at2 hl) ?_
      refine lv_aload_n hx hb gX12_hours_3.2.2.2.2.2.2.2.1 rfl (lv_at2 hl) ?_
      refine gf_X12_9 hC rfl hK hP 0 rfl rfl gX12_hours_3.2.2.2.2.2.2.2.2.1 ?_
      refine lv_iload hx hb gX12_hours_3.2.2.2.2.2.2.2.2.2 (lv_at0 hl) ?_
      refine lv_iconst (v := 1) hx hb gX12_hours_4.1 (by decide) ?_
      refine lv_iadd hx hb gX12_hours_4.2.1 ?_
      refine eqi (x1 := nI (104 + 3 * s9_6170 + 1)) (nI_add (104 + 3 * s9_6170) 1) ?_
      refine aldN hC hK hP 1 rfl (k := 104 + 3 * s9_6170 + 1) (by omega) (Nat.le_of_ble_eq_true rfl) (v := nI cc6171) (ecc6171) gX12_hours_4.2.2.1 ?_
      refine pV hC hK hl hP hD (m_greatest l G h0 cc6171 nw nk mhasKept nt mtaped nr mrowMany mroundOf mroundFrom 0 nm mfromHour mtoHour ns mfrom mto msort misFault mdeep mcoded mlines nl nc nF np ntr nb mbestCost nso nsi nit nsh nsf nss nrc mtraced mdealer mnumber mwhose msize misParted fnm (by omega)) si_X12_155 [0, 2] sm_0_2 fm_0_2 nd_0_2 rfl rfl rfl rfl rfl (Nat.le_of_ble_eq_true rfl) rm_3_1_2 ⟨by first | exact Nat.le_of_ble_eq_true rfl | exact Nat.zero_le _, by first | exact Nat.le_of_ble_eq_true rfl | exact Nat.zero_le _⟩ gX12_hours_4.2.2.2.1 (Keqr ?_)
      refine lv_isub hx hb gX12_hours_4.2.2.2.2.1 ?_
      refine pf_X12_161 hC rfl hK hP hD hS 0 (ws' := [(h0, oX12 nw nk mhasKept nt mtaped nr mrowMany mroundOf mroundFrom 0 nm ((fnw (104 + 3 * s9_6170 + 2)) - (fnm cc6171)) mtoHour ns mfrom mto msort misFault mdeep mcoded mlines nl nc nF np ntr nb mbestCost nso nsi nit nsh nsf nss nrc mtraced mdealer mnumber mwhose msize misParted), (nw, iA G 1662 fnw), (nm, iA G 36 fnm)]) rfl (Nat.le_of_ble_eq_true rfl) rfl rfl rfl gX12_hours_4.2.2.2.2.2.1 (fun H locs hP hD hS => ?_)
      refine lv_aload_n hx hb gX12_hours_4.2.2.2.2.2.2.1 rfl (lv_at2 hl) ?_
      refine lv_aload_n hx hb gX12_hours_4.2.2.2.2.2.2.2.1 rfl (lv_at2 hl) ?_
      refine gf_X12_9 hC rfl hK hP 0 rfl rfl gX12_hours_4.2.2.2.2.2.2.2.2.1 ?_
      refine lv_iload hx hb gX12_hours_4.2.2.2.2.2.2.2.2.2 (lv_at0 hl) ?_
      refine lv_iconst (v := 2) hx hb gX12_hours_5.1 (by decide) ?_
      refine lv_iadd hx hb gX12_hours_5.2.1 ?_
      refine eqi (x1 := nI (104 + 3 * s9_6170 + 2)) (nI_add (104 + 3 * s9_6170) 2) ?_
      refine aldN hC hK hP 1 rfl (k := (104 + 3 * s9_6170 + 2)) (by omega) (Nat.le_of_ble_eq_true rfl) (v := fnw (104 + 3 * s9_6170 + 2)) rfl gX12_hours_5.2.2.1 ?_
      refine lv_aload_n hx hb gX12_hours_5.2.2.2.1 rfl (lv_at2 hl) ?_
      refine lv_aload_n hx hb gX12_hours_5.2.2.2.2.1 rfl (lv_at2 hl) ?_
      refine gf_X12_9 hC rfl hK hP 0 rfl rfl gX12_hours_5.2.2.2.2.2.1 ?_
      refine lv_iload hx hb gX12_hours_5.2.2.2.2.2.2.1 (lv_at0 hl) ?_
      refine lv_iconst (v := 1) hx hb gX12_hours_5.2.2.2.2.2.2.2.1 (by decide) ?_
      refine lv_iadd hx hb gX12_hours_5.2.2.2.2.2.2.2.2.1 ?_
      refine eqi (x1 := nI (104 + 3 * s9_6170 + 1)) (nI_add (104 + 3 * s9_6170) 1) ?_
      refine aldN hC hK hP 1 rfl (k := 104 + 3 * s9_6170 + 1) (by omega) (Nat.le_of_ble_eq_true rfl) (v := nI cc6171) (ecc6171) gX12_hours_5.2.2.2.2.2.2.2.2.2 ?_
      refine pV hC hK hl hP hD (m_least l G h0 cc6171 nw nk mhasKept nt mtaped nr mrowMany mroundOf mroundFrom 0 nm ((fnw (104 + 3 * s9_6170 + 2)) - (fnm cc6171)) mtoHour ns mfrom mto msort misFault mdeep mcoded mlines nl nc nF np ntr nb mbestCost nso nsi nit nsh nsf nss nrc mtraced mdealer mnumber mwhose msize misParted fnm (by omega)) si_X12_158 [0, 2] sm_0_2 fm_0_2 nd_0_2 rfl rfl rfl rfl rfl (Nat.le_of_ble_eq_true rfl) rm_3_1_2 ⟨by first | exact Nat.le_of_ble_eq_true rfl | exact Nat.zero_le _, by first | exact Nat.le_of_ble_eq_true rfl | exact Nat.zero_le _⟩ gX12_hours_6.1 (Keqr ?_)
      refine lv_isub hx hb gX12_hours_6.2.1 ?_
      refine pf_X12_164 hC rfl hK hP hD hS 0 (ws' := [(h0, oX12 nw nk mhasKept nt mtaped nr mrowMany mroundOf mroundFrom 0 nm ((fnw (104 + 3 * s9_6170 + 2)) - (fnm cc6171)) ((fnw (104 + 3 * s9_6170 + 2)) - (-(fnm (6 * cc6171)))) ns mfrom mto msort misFault mdeep mcoded mlines nl nc nF np ntr nb mbestCost nso nsi nit nsh nsf nss nrc mtraced mdealer mnumber mwhose msize misParted), (nw, iA G 1662 fnw), (nm, iA G 36 fnm)]) rfl (Nat.le_of_ble_eq_true rfl) rfl rfl rfl gX12_hours_6.2.2.1 (fun H locs hP hD hS => ?_)
      refine lv_iconst (v := 1) hx hb gX12_hours_6.2.2.2.1 (by decide) ?_
      refine toQ hQ0 ?_
      exact RI (v := 1) hC hP hD hS [0, 1, 2] ((fnw (104 + 3 * s9_6170 + 2)) - (fnm cc6171), (fnw (104 + 3 * s9_6170 + 2)) - (-(fnm (6 * cc6171)))) rfl rfl (by decide) (Or.inl ⟨rfl, _, hpx6170.fst, ⟨by omega, a6168⟩, TR0.mk ecc6171 (by omega), TR1.mk ecc6171 (by omega)⟩) (by decide +kernel) gX12_hours_6.2.2.2.2
    · refine lv_if_ne (tgt := 26) hx hb gX12_hours_1.2.1 (by decide) (fun c9 => absurd (by decide) c9) (fun _ => ?_)
      refine lv_iconst (v := 0) hx hb gX12_hours_1.2.2.1 (by decide) ?_
      refine toQ hQ0 ?_
      exact RI (v := 0) hC hP hD hS [0, 1, 2] (mfromHour, mtoHour) rfl rfl (by decide) (Or.inr ⟨rfl, Or.inl (fun h9 => a6168 h9.2)⟩) (by decide +kernel) gX12_hours_1.2.2.2.1
def K_m_inHandC (l : Launch) (G : GG) (h0 : Nat) (jp : Nat) (je : Nat) (nw : Nat) (nk : Nat) (mhasKept : Int32) (nt : Nat) (mtaped : Int32) (nr : Nat) (mrowMany : Int32) (mroundOf : Int32) (mroundFrom : Int32) (mouts : Int32) (nm : Nat) (mfromHour : Int32) (mtoHour : Int32) (ns : Nat) (mfrom : Int32) (mto : Int32) (msort : Int32) (misFault : Int32) (mdeep : Int32) (mcoded : Int32) (mlines : Int32) (nl : Nat) (nc : Nat) (nF : Nat) (np : Nat) (ntr : Nat) (nb : Nat) (mbestCost : Int32) (nso : Nat) (nsi : Nat) (nit : Nat) (nsh : Nat) (nsf : Nat) (nss : Nat) (nrc : Nat) (mtraced : Int32) (mdealer : Int32) (mnumber : Int32) (mwhose : Int32) (msize : Int32) (misParted : Int32) (fnw : Nat → Int32) : Prop := MP l G yX12_inHand cX12_inHand 4 (some .boolean) 4 [.ref h0, .int (nI jp), .int (nI je), .int 1] [(h0, oX12 nw nk mhasKept nt mtaped nr mrowMany mroundOf mroundFrom mouts nm mfromHour mtoHour ns mfrom mto msort misFault mdeep mcoded mlines nl nc nF np ntr nb mbestCost nso nsi nit nsh nsf nss nrc mtraced mdealer mnumber mwhose msize misParted), (nw, iA G 1662 fnw)] (fun r : Int32 => r = 0)
set_option maxHeartbeats 4000000 in
set_option maxRecDepth 100000 in
theorem m_inHandC (l : Launch) (G : GG) (k6 : Nat) (h0 : Nat) (jp : Nat) (je : Nat) (nw : Nat) (nk : Nat) (mhasKept : Int32) (nt : Nat) (mtaped : Int32) (nr : Nat) (mrowMany : Int32) (mroundOf : Int32) (mroundFrom : Int32) (mouts : Int32) (nm : Nat) (mfromHour : Int32) (mtoHour : Int32) (ns : Nat) (mfrom : Int32) (mto : Int32) (msort : Int32) (misFault : Int32) (mdeep : Int32) (mcoded : Int32) (mlines : Int32) (nl : Nat) (nc : Nat) (nF : Nat) (np : Nat) (ntr : Nat) (nb : Nat) (mbestCost : Int32) (nso : Nat) (nsi : Nat) (nit : Nat) (nsh : Nat) (nsf : Nat) (nss : Nat) (nrc : Nat) (mtraced : Int32) (mdealer : Int32) (mnumber : Int32) (mwhose : Int32) (msize : Int32) (misParted : Int32) (fnw : Nat → Int32) (e6 : fnw 6 = nI k6) (hk6 : k6 ≤ 24) (hjp : jp < 12) : K_m_inHandC l G h0 jp je nw nk mhasKept nt mtaped nr mrowMany mroundOf mroundFrom mouts nm mfromHour mtoHour ns mfrom mto msort misFault mdeep mcoded mlines nl nc nF np ntr nb mbestCost nso nsi nit nsh nsf nss nrc mtraced mdealer mnumber mwhose msize misParted fnw := by
  refine MP.start (by decide +kernel) (Nat.le_of_ble_eq_true rfl) ?_
  intro p e s m below meth c ls hC hK hP hD hl
  refine absQ (fun Q0 hQ0 => ?_)
  have hl : lv_has ls 4 [(0, .ref h0), (1, .int (nI jp)), (2, .int (nI je)), (3, .int 1)] := hl
  refine Kan8 hC (fun hx hb hr hml hB hown hlocks hnm => ?_)
  refine lv_aload_n hx hb gX12_inHand_0.1 rfl (lv_at0 hl) ?_
  refine lv_iload_n hx hb gX12_inHand_0.2.1 rfl (lv_at1 hl) ?_
  refine lv_iconst (v := 0) hx hb gX12_inHand_0.2.2.1 (by decide) ?_
  refine pV hC hK hl hP hD (m_paper l G h0 jp 0 nw nk mhasKept nt mtaped nr mrowMany mroundOf mroundFrom mouts nm mfromHour mtoHour ns mfrom mto msort misFault mdeep mcoded mlines nl nc nF np ntr nb mbestCost nso nsi nit nsh nsf nss nrc mtraced mdealer mnumber mwhose msize misParted fnw (hjp) (by omega)) si_X12_88 [0, 1] sm_0_1 fm_0_1 nd_0_1 rfl rfl rfl rfl rfl (Nat.le_of_ble_eq_true rfl) rm_4_1_3 ⟨by first | exact Nat.le_of_ble_eq_true rfl | exact Nat.zero_le _, by first | exact Nat.le_of_ble_eq_true rfl | exact Nat.zero_le _⟩ gX12_inHand_0.2.2.2.1 (Keqr ?_)
  refine lv_iload_n hx hb gX12_inHand_0.2.2.2.2.1 rfl (lv_at2 hl) ?_
  refine lv_icmp_ne (tgt := 18) hx hb gX12_inHand_0.2.2.2.2.2.1 (by decide) (fun c_7_6178 => ?_) (fun c_7_6178 => ?_)
  · refine lv_aload_n hx hb gX12_inHand_1.2.2.1 rfl (lv_at0 hl) ?_
    refine lv_iload_n hx hb gX12_inHand_1.2.2.2.1 rfl (lv_at1 hl) ?_
    refine lv_iconst (v := 1) hx hb gX12_inHand_1.2.2.2.2.1 (by decide) ?_
    refine pV hC hK hl hP hD (m_paper l G h0 jp 1 nw nk mhasKept nt mtaped nr mrowMany mroundOf mroundFrom mouts nm mfromHour mtoHour ns mfrom mto msort misFault mdeep mcoded mlines nl nc nF np ntr nb mbestCost nso nsi nit nsh nsf nss nrc mtraced mdealer mnumber mwhose msize misParted fnw (hjp) (by omega)) si_X12_88 [0, 1] sm_0_1 fm_0_1 nd_0_1 rfl rfl rfl rfl rfl (Nat.le_of_ble_eq_true rfl) rm_4_1_3 ⟨by first | exact Nat.le_of_ble_eq_true rfl | exact Nat.zero_le _, by first | exact Nat.le_of_ble_eq_true rfl | exact Nat.zero_le _⟩ gX12_inHand_1.2.2.2.2.2.1 (Keqr ?_)
    refine lv_iload_n hx hb gX12_inHand_1.2.2.2.2.2.2.1 rfl (lv_at2 hl) ?_
    refine pS hC hK hl (m_has l G (fnw (32 + 6 * jp + 1)) (nI je)) si_X12_99 rfl rfl (Nat.le_of_ble_eq_true rfl) rm_4_1_2 ⟨by first | exact Nat.le_of_ble_eq_true rfl | exact Nat.zero_le _, by first | exact Nat.le_of_ble_eq_true rfl | exact Nat.zero_le _⟩ gX12_inHand_1.2.2.2.2.2.2.2.1 (Kors (Keqa fun a6182 => ?_) (Keqa fun a6182 => ?_))
    · refine lv_if_eq (tgt := 41) hx hb gX12_inHand_1.2.2.2.2.2.2.2.2.1 (by decide) (fun c9 => absurd c9 (by decide)) (fun _ => ?_)
      refine lv_aload_n hx hb gX12_inHand_1.2.2.2.2.2.2.2.2.2 rfl (lv_at0 hl) ?_
      refine lv_iload_n hx hb gX12_inHand_2.1 rfl (lv_at1 hl) ?_
      refine lv_iload_n hx hb gX12_inHand_2.2.1 rfl (lv_at3 hl) ?_
      refine lv_iconst (v := 1) hx hb gX12_inHand_2.2.2.1 (by decide) ?_
      refine pV hC hK hl hP hD (m_hoursC l G k6 h0 jp 1 nw nk mhasKept nt mtaped nr mrowMany mroundOf mroundFrom mouts nm mfromHour mtoHour ns mfrom mto msort misFault mdeep mcoded mlines nl nc nF np ntr nb mbestCost nso nsi nit nsh nsf nss nrc mtraced mdealer mnumber mwhose msize misParted fnw (e6) (hk6) (hjp)) si_X12_167 [0, 1] sm_0_1 fm_0_1 nd_0_1 rfl rfl rfl rfl rfl (Nat.le_of_ble_eq_true rfl) rm_4_3_6 ⟨by first | exact Nat.le_of_ble_eq_true rfl | exact Nat.zero_le _, by first | exact Nat.le_of_ble_eq_true rfl | exact Nat.zero_le _⟩ gX12_inHand_2.2.2.2.1 (Keqr ?_)
      refine lv_if_ne (tgt := 43) hx hb gX12_inHand_2.2.2.2.2.1 (by decide) (fun c9 => absurd (by decide) c9) (fun _ => ?_)
      refine lv_iconst (v := 0) hx hb gX12_inHand_2.2.2.2.2.2.1 (by decide) ?_
      refine toQ hQ0 ?_
      exact RP (v := 0) hC (rfl) (by decide +kernel) gX12_inHand_2.2.2.2.2.2.2.1
    · refine lv_if_eq (tgt := 41) hx hb gX12_inHand_1.2.2.2.2.2.2.2.2.1 (by decide) (fun _ => ?_) (fun c9 => absurd (by decide) c9)
      refine lv_iconst (v := 0) hx hb gX12_inHand_2.2.2.2.2.2.1 (by decide) ?_
      refine toQ hQ0 ?_
      exact RP (v := 0) hC (rfl) (by decide +kernel) gX12_inHand_2.2.2.2.2.2.2.1
  · refine lv_aload_n hx hb gX12_inHand_0.2.2.2.2.2.2.1 rfl (lv_at0 hl) ?_
    refine lv_iload_n hx hb gX12_inHand_0.2.2.2.2.2.2.2.1 rfl (lv_at1 hl) ?_
    refine lv_iload_n hx hb gX12_inHand_0.2.2.2.2.2.2.2.2.1 rfl (lv_at3 hl) ?_
    refine lv_iconst (v := 0) hx hb gX12_inHand_0.2.2.2.2.2.2.2.2.2 (by decide) ?_
    refine pV hC hK hl hP hD (m_hoursC l G k6 h0 jp 0 nw nk mhasKept nt mtaped nr mrowMany mroundOf mroundFrom mouts nm mfromHour mtoHour ns mfrom mto msort misFault mdeep mcoded mlines nl nc nF np ntr nb mbestCost nso nsi nit nsh nsf nss nrc mtraced mdealer mnumber mwhose msize misParted fnw (e6) (hk6) (hjp)) si_X12_167 [0, 1] sm_0_1 fm_0_1 nd_0_1 rfl rfl rfl rfl rfl (Nat.le_of_ble_eq_true rfl) rm_4_3_6 ⟨by first | exact Nat.le_of_ble_eq_true rfl | exact Nat.zero_le _, by first | exact Nat.le_of_ble_eq_true rfl | exact Nat.zero_le _⟩ gX12_inHand_1.1 (Keqr ?_)
    refine toQ hQ0 ?_
    exact RP (v := 0) hC (rfl) (by decide +kernel) gX12_inHand_1.2.1
def K_m_inHandL (l : Launch) (G : GG) (kq : Nat) (k6 : Nat) (h0 : Nat) (jp : Nat) (je : Nat) (nw : Nat) (nk : Nat) (mhasKept : Int32) (nt : Nat) (mtaped : Int32) (nr : Nat) (mrowMany : Int32) (mroundOf : Int32) (mroundFrom : Int32) (nm : Nat) (mfromHour : Int32) (mtoHour : Int32) (ns : Nat) (mfrom : Int32) (mto : Int32) (msort : Int32) (misFault : Int32) (mdeep : Int32) (mcoded : Int32) (mlines : Int32) (nl : Nat) (nc : Nat) (nF : Nat) (np : Nat) (ntr : Nat) (nb : Nat) (mbestCost : Int32) (nso : Nat) (nsi : Nat) (nit : Nat) (nsh : Nat) (nsf : Nat) (nss : Nat) (nrc : Nat) (mtraced : Int32) (mdealer : Int32) (mnumber : Int32) (mwhose : Int32) (msize : Int32) (misParted : Int32) (fnw : Nat → Int32) (fnm : Nat → Int32) : Prop := MI l G yX12_inHand cX12_inHand 4 (some .boolean) 4 0 0 [.ref h0, .int (nI jp), .int (nI je), .int 0] [(h0, oX12 nw nk mhasKept nt mtaped nr mrowMany mroundOf mroundFrom 0 nm mfromHour mtoHour ns mfrom mto msort misFault mdeep mcoded mlines nl nc nF np ntr nb mbestCost nso nsi nit nsh nsf nss nrc mtraced mdealer mnumber mwhose msize misParted), (nw, iA G 1662 fnw), (nm, iA G 36 fnm)] (fun (r : Int32) (u : Int32 × Int32) => ((r = 1 ∧ ((fnw (32 + 6 * jp + 0) = nI je ∧ ∃ s9, FST (shf fnw 104) k6 jp s9 ∧ VSE fnw kq jp ∧ u.1 = TR0 (shf fnw 104) fnm s9 ∧ u.2 = TR1 (shf fnw 104) fnm s9) ∨ (¬ fnw (32 + 6 * jp + 0) = nI je ∧ ((fnw (32 + 6 * jp + 1)) >>> ((nI je) &&& 31)) &&& 1 = 1 ∧ ∃ s9, LST (shf fnw 104) k6 jp s9 ∧ VSE fnw kq jp ∧ u.1 = TR0 (shf fnw 104) fnm s9 ∧ u.2 = TR1 (shf fnw 104) fnm s9 + fnw (12 + 2 * je + 1)))) ∨ (r = 0 ∧ ((¬ VSE fnw kq jp ∨ ∀ s9, s9 < k6 → ¬ shf fnw 104 (s9 * 3 + 0) = nI jp) ∨ (¬ fnw (32 + 6 * jp + 0) = nI je ∧ ¬ ((fnw (32 + 6 * jp + 1)) >>> ((nI je) &&& 31)) &&& 1 = 1))))) (fun u : Int32 × Int32 => [(h0, oX12 nw nk mhasKept nt mtaped nr mrowMany mroundOf mroundFrom 0 nm u.1 u.2 ns mfrom mto msort misFault mdeep mcoded mlines nl nc nF np ntr nb mbestCost nso nsi nit nsh nsf nss nrc mtraced mdealer mnumber mwhose msize misParted), (nw, iA G 1662 fnw), (nm, iA G 36 fnm)])
set_option maxHeartbeats 4000000 in
set_option maxRecDepth 100000 in
theorem m_inHandL (l : Launch) (G : GG) (kq : Nat) (k6 : Nat) (h0 : Nat) (jp : Nat) (je : Nat) (nw : Nat) (nk : Nat) (mhasKept : Int32) (nt : Nat) (mtaped : Int32) (nr : Nat) (mrowMany : Int32) (mroundOf : Int32) (mroundFrom : Int32) (nm : Nat) (mfromHour : Int32) (mtoHour : Int32) (ns : Nat) (mfrom : Int32) (mto : Int32) (msort : Int32) (misFault : Int32) (mdeep : Int32) (mcoded : Int32) (mlines : Int32) (nl : Nat) (nc : Nat) (nF : Nat) (np : Nat) (ntr : Nat) (nb : Nat) (mbestCost : Int32) (nso : Nat) (nsi : Nat) (nit : Nat) (nsh : Nat) (nsf : Nat) (nss : Nat) (nrc : Nat) (mtraced : Int32) (mdealer : Int32) (mnumber : Int32) (mwhose : Int32) (msize : Int32) (misParted : Int32) (fnw : Nat → Int32) (fnm : Nat → Int32) (hN : NI fnw) (e6 : fnw 6 = nI k6) (hk6 : k6 ≤ 24) (ekq : fnw 5 = nI kq) (hjp : jp < kq) (hkq : kq ≤ 12) (hje : je < 10) : K_m_inHandL l G kq k6 h0 jp je nw nk mhasKept nt mtaped nr mrowMany mroundOf mroundFrom nm mfromHour mtoHour ns mfrom mto msort misFault mdeep mcoded mlines nl nc nF np ntr nb mbestCost nso nsi nit nsh nsf nss nrc mtraced mdealer mnumber mwhose msize misParted fnw fnm := by
  refine MI.start (by decide +kernel) (Nat.le_of_ble_eq_true rfl) ?_
  intro p e s m below meth c A ls hC hK hP hD hS hA hl
  refine absQ (fun Q0 hQ0 => ?_)
  have hl : lv_has ls 4 [(0, .ref h0), (1, .int (nI jp)), (2, .int (nI je)), (3, .int 0)] := hl
  refine Kan8 hC (fun hx hb hr hml hB hown hlocks hnm => ?_)
  refine lv_aload_n hx hb gX12_inHand_0.1 rfl (lv_at0 hl) ?_
  refine lv_iload_n hx hb gX12_inHand_0.2.1 rfl (lv_at1 hl) ?_
  refine lv_iconst (v := 0) hx hb gX12_inHand_0.2.2.1 (by decide) ?_
  refine pV hC hK hl hP hD (m_paper l G h0 jp 0 nw nk mhasKept nt mtaped nr mrowMany mroundOf mroundFrom 0 nm mfromHour mtoHour ns mfrom mto msort misFault mdeep mcoded mlines nl nc nF np ntr nb mbestCost nso nsi nit nsh nsf nss nrc mtraced mdealer mnumber mwhose msize misParted fnw (by omega) (by omega)) si_X12_88 [0, 1] sm_0_1 fm_0_1 nd_0_1 rfl rfl rfl rfl rfl (Nat.le_of_ble_eq_true rfl) rm_4_1_3 ⟨by first | exact Nat.le_of_ble_eq_true rfl | exact Nat.zero_le _, by first | exact Nat.le_of_ble_eq_true rfl | exact Nat.zero_le _⟩ gX12_inHand_0.2.2.2.1 (Keqr ?_)
  refine lv_iload_n hx hb gX12_inHand_0.2.2.2.2.1 rfl (lv_at2 hl) ?_
  refine lv_icmp_ne (tgt := 18) hx hb gX12_inHand_0.2.2.2.2.2.1 (by decide) (fun c_7_6189 => ?_) (fun c_7_6189 => ?_)
  · refine lv_aload_n hx hb gX12_inHand_1.2.2.1 rfl (lv_at0 hl) ?_
    refine lv_iload_n hx hb gX12_inHand_1.2.2.2.1 rfl (lv_at1 hl) ?_
    refine lv_iconst (v := 1) hx hb gX12_inHand_1.2.2.2.2.1 (by decide) ?_
    refine pV hC hK hl hP hD (m_paper l G h0 jp 1 nw nk mhasKept nt mtaped nr mrowMany mroundOf mroundFrom 0 nm mfromHour mtoHour ns mfrom mto msort misFault mdeep mcoded mlines nl nc nF np ntr nb mbestCost nso nsi nit nsh nsf nss nrc mtraced mdealer mnumber mwhose msize misParted fnw (by omega) (by omega)) si_X12_88 [0, 1] sm_0_1 fm_0_1 nd_0_1 rfl rfl rfl rfl rfl (Nat.le_of_ble_eq_true rfl) rm_4_1_3 ⟨by first | exact Nat.le_of_ble_eq_true rfl | exact Nat.zero_le _, by first | exact Nat.le_of_ble_eq_true rfl | exact Nat.zero_le _⟩ gX12_inHand_1.2.2.2.2.2.1 (Keqr ?_)
    refine lv_iload_n hx hb gX12_inHand_1.2.2.2.2.2.2.1 rfl (lv_at2 hl) ?_
    refine pS hC hK hl (m_has l G (fnw (32 + 6 * jp + 1)) (nI je)) si_X12_99 rfl rfl (Nat.le_of_ble_eq_true rfl) rm_4_1_2 ⟨by first | exact Nat.le_of_ble_eq_true rfl | exact Nat.zero_le _, by first | exact Nat.le_of_ble_eq_true rfl | exact Nat.zero_le _⟩ gX12_inHand_1.2.2.2.2.2.2.2.1 (Kors (Keqa fun a6193 => ?_) (Keqa fun a6193 => ?_))
    · refine lv_if_eq (tgt := 41) hx hb gX12_inHand_1.2.2.2.2.2.2.2.2.1 (by decide) (fun c9 => absurd c9 (by decide)) (fun _ => ?_)
      refine lv_aload_n hx hb gX12_inHand_1.2.2.2.2.2.2.2.2.2 rfl (lv_at0 hl) ?_
      refine lv_iload_n hx hb gX12_inHand_2.1 rfl (lv_at1 hl) ?_
      refine lv_iload_n hx hb gX12_inHand_2.2.1 rfl (lv_at3 hl) ?_
      refine lv_iconst (v := 1) hx hb gX12_inHand_2.2.2.1 (by decide) ?_
      refine iV (wr := []) hC hK hl hP hD hS hA (m_hoursL l G kq k6 h0 jp nw nk mhasKept nt mtaped nr mrowMany mroundOf mroundFrom nm mfromHour mtoHour ns mfrom mto msort misFault mdeep mcoded mlines nl nc nF np ntr nb mbestCost nso nsi nit nsh nsf nss nrc mtraced mdealer mnumber mwhose msize misParted fnw fnm (hN) (e6) (hk6) (ekq) (hjp) (hkq)) si_X12_167 [0, 1, 2] [] sm_0_1_2 fm_0_1_2 nd_0_1_2 rfl rfl (by decide) rfl rfl rfl rfl rfl (Nat.le_of_ble_eq_true rfl) rm_4_3_6 ⟨Nat.le_of_ble_eq_true rfl, Nat.le_of_ble_eq_true rfl⟩ gX12_inHand_2.2.2.2.1 (fun r6194 => Ktu2 fun fh16196 th16197 => ?_)
      intro H locs hr6194 hP hD hS
      try dsimp only at hr6194
      refine Kpdr (ws := [(h0, oX12 nw nk mhasKept nt mtaped nr mrowMany mroundOf mroundFrom 0 nm fh16196 th16197 ns mfrom mto msort misFault mdeep mcoded mlines nl nc nF np ntr nb mbestCost nso nsi nit nsh nsf nss nrc mtraced mdealer mnumber mwhose msize misParted), (nw, iA G 1662 fnw), (nm, iA G 36 fnm)]) hP hD (fun hP hD => ?_)
      rcases hr6194 with ⟨rfl, a6198⟩ | ⟨rfl, a6198⟩
      · refine lv_if_ne (tgt := 43) hx hb gX12_inHand_2.2.2.2.2.1 (by decide) (fun _ => ?_) (fun c9 => absurd c9 (by decide))
        refine lv_aload_n hx hb gX12_inHand_2.2.2.2.2.2.2.2.1 rfl (lv_at0 hl) ?_
        refine lv_dup hx hb gX12_inHand_2.2.2.2.2.2.2.2.2.1 rfl ?_
        refine gf_X12_164 hC rfl hK hP 0 rfl rfl gX12_inHand_2.2.2.2.2.2.2.2.2.2 ?_
        refine lv_aload_n hx hb gX12_inHand_3.1 rfl (lv_at0 hl) ?_
        refine gf_X12_9 hC rfl hK hP 0 rfl rfl gX12_inHand_3.2.1 ?_
        refine lv_bipush (v := 12) hx hb gX12_inHand_3.2.2.1 (by decide) ?_
        refine lv_iconst (v := 2) hx hb gX12_inHand_3.2.2.2.1 (by decide) ?_
        refine lv_iload_n hx hb gX12_inHand_3.2.2.2.2.1 rfl (lv_at2 hl) ?_
        refine lv_imul hx hb gX12_inHand_3.2.2.2.2.2.1 ?_
        refine eqi (x1 := nI (2 * je)) (nI_mul 2 je) ?_
        refine lv_iadd hx hb gX12_inHand_3.2.2.2.2.2.2.1 ?_
        refine eqi (x1 := nI (12 + 2 * je)) (nI_add 12 (2 * je)) ?_
        refine lv_iconst (v := 1) hx hb gX12_inHand_3.2.2.2.2.2.2.2.1 (by decide) ?_
        refine lv_iadd hx hb gX12_inHand_3.2.2.2.2.2.2.2.2.1 ?_
        refine eqi (x1 := nI (12 + 2 * je + 1)) (nI_add (12 + 2 * je) 1) ?_
        refine aldN hC hK hP 1 rfl (k := (12 + 2 * je + 1)) (by omega) (Nat.le_of_ble_eq_true rfl) (v := fnw (12 + 2 * je + 1)) rfl gX12_inHand_3.2.2.2.2.2.2.2.2.2 ?_
        refine lv_iadd hx hb gX12_inHand_4.1 ?_
        refine pf_X12_164 hC rfl hK hP hD hS 0 (ws' := [(h0, oX12 nw nk mhasKept nt mtaped nr mrowMany mroundOf mroundFrom 0 nm fh16196 (th16197 + (fnw (12 + 2 * je + 1))) ns mfrom mto msort misFault mdeep mcoded mlines nl nc nF np ntr nb mbestCost nso nsi nit nsh nsf nss nrc mtraced mdealer mnumber mwhose msize misParted), (nw, iA G 1662 fnw), (nm, iA G 36 fnm)]) rfl (Nat.le_of_ble_eq_true rfl) rfl rfl rfl gX12_inHand_4.2.1 (fun H locs hP hD hS => ?_)
        refine lv_iconst (v := 1) hx hb gX12_inHand_4.2.2.1 (by decide) ?_
        refine toQ hQ0 ?_
        exact RI (v := 1) hC hP hD hS [0, 1, 2] (fh16196, th16197 + (fnw (12 + 2 * je + 1))) rfl rfl (by decide) (Or.inl ⟨rfl, Or.inr ⟨c_7_6189, a6193, Exists.imp (fun s9 h9 => ⟨h9.1, h9.2.1, h9.2.2.1, congrArg (fun z9 => z9 + fnw (12 + 2 * je + 1)) h9.2.2.2⟩) a6198⟩⟩) (by decide +kernel) gX12_inHand_4.2.2.2
      · refine lv_if_ne (tgt := 43) hx hb gX12_inHand_2.2.2.2.2.1 (by decide) (fun c9 => absurd (by decide) c9) (fun _ => ?_)
        refine lv_iconst (v := 0) hx hb gX12_inHand_2.2.2.2.2.2.1 (by decide) ?_
        refine toQ hQ0 ?_
        exact RI (v := 0) hC hP hD hS [0, 1, 2] (fh16196, th16197) rfl rfl (by decide) (Or.inr ⟨rfl, Or.inl a6198⟩) (by decide +kernel) gX12_inHand_2.2.2.2.2.2.2.1
    · refine lv_if_eq (tgt := 41) hx hb gX12_inHand_1.2.2.2.2.2.2.2.2.1 (by decide) (fun _ => ?_) (fun c9 => absurd (by decide) c9)
      refine lv_iconst (v := 0) hx hb gX12_inHand_2.2.2.2.2.2.1 (by decide) ?_
      refine toQ hQ0 ?_
      exact RI (v := 0) hC hP hD hS [0, 1, 2] (mfromHour, mtoHour) rfl rfl (by decide) (Or.inr ⟨rfl, Or.inr ⟨c_7_6189, a6193⟩⟩) (by decide +kernel) gX12_inHand_2.2.2.2.2.2.2.1
  · refine lv_aload_n hx hb gX12_inHand_0.2.2.2.2.2.2.1 rfl (lv_at0 hl) ?_
    refine lv_iload_n hx hb gX12_inHand_0.2.2.2.2.2.2.2.1 rfl (lv_at1 hl) ?_
    refine lv_iload_n hx hb gX12_inHand_0.2.2.2.2.2.2.2.2.1 rfl (lv_at3 hl) ?_
    refine lv_iconst (v := 0) hx hb gX12_inHand_0.2.2.2.2.2.2.2.2.2 (by decide) ?_
    refine iV (wr := []) hC hK hl hP hD hS hA (m_hoursF l G kq k6 h0 jp nw nk mhasKept nt mtaped nr mrowMany mroundOf mroundFrom nm mfromHour mtoHour ns mfrom mto msort misFault mdeep mcoded mlines nl nc nF np ntr nb mbestCost nso nsi nit nsh nsf nss nrc mtraced mdealer mnumber mwhose msize misParted fnw fnm (hN) (e6) (hk6) (ekq) (hjp) (hkq)) si_X12_167 [0, 1, 2] [] sm_0_1_2 fm_0_1_2 nd_0_1_2 rfl rfl (by decide) rfl rfl rfl rfl rfl (Nat.le_of_ble_eq_true rfl) rm_4_3_6 ⟨Nat.le_of_ble_eq_true rfl, Nat.le_of_ble_eq_true rfl⟩ gX12_inHand_1.1 (fun r6199 => Ktu2 fun fh16201 th16202 => ?_)
    intro H locs hr6199 hP hD hS
    try dsimp only at hr6199
    refine Kpdr (ws := [(h0, oX12 nw nk mhasKept nt mtaped nr mrowMany mroundOf mroundFrom 0 nm fh16201 th16202 ns mfrom mto msort misFault mdeep mcoded mlines nl nc nF np ntr nb mbestCost nso nsi nit nsh nsf nss nrc mtraced mdealer mnumber mwhose msize misParted), (nw, iA G 1662 fnw), (nm, iA G 36 fnm)]) hP hD (fun hP hD => ?_)
    rcases hr6199 with ⟨rfl, a6203⟩ | ⟨rfl, a6203⟩
    · refine toQ hQ0 ?_
      exact RI (v := 1) hC hP hD hS [0, 1, 2] (fh16201, th16202) rfl rfl (by decide) (Or.inl ⟨rfl, Or.inl ⟨c_7_6189, a6203⟩⟩) (by decide +kernel) gX12_inHand_1.2.1
    · refine toQ hQ0 ?_
      exact RI (v := 0) hC hP hD hS [0, 1, 2] (fh16201, th16202) rfl rfl (by decide) (Or.inr ⟨rfl, Or.inl a6203⟩) (by decide +kernel) gX12_inHand_1.2.1
def K_m_isAgainstX (l : Launch) (G : GG) (h0 : Nat) (hh : Int32) (js : Nat) (nw : Nat) (nk : Nat) (mhasKept : Int32) (nt : Nat) (mtaped : Int32) (nr : Nat) (mrowMany : Int32) (mroundOf : Int32) (mroundFrom : Int32) (mouts : Int32) (nm : Nat) (mfromHour : Int32) (mtoHour : Int32) (ns : Nat) (mfrom : Int32) (mto : Int32) (msort : Int32) (misFault : Int32) (mdeep : Int32) (mcoded : Int32) (mlines : Int32) (nl : Nat) (nc : Nat) (nF : Nat) (np : Nat) (ntr : Nat) (nb : Nat) (mbestCost : Int32) (nso : Nat) (nsi : Nat) (nit : Nat) (nsh : Nat) (nsf : Nat) (nss : Nat) (nrc : Nat) (mtraced : Int32) (mdealer : Int32) (mnumber : Int32) (mwhose : Int32) (msize : Int32) (misParted : Int32) (fnw : Nat → Int32) : Prop := MP l G yX12_isAgainst cX12_isAgainst 3 (some .boolean) 2 [.ref h0, .int hh, .int (nI js)] [(h0, oX12 nw nk mhasKept nt mtaped nr mrowMany mroundOf mroundFrom mouts nm mfromHour mtoHour ns mfrom mto msort misFault mdeep mcoded mlines nl nc nF np ntr nb mbestCost nso nsi nit nsh nsf nss nrc mtraced mdealer mnumber mwhose msize misParted), (nw, iA G 1662 fnw)] (fun r : Int32 => (r = 1 ∧ AGF (shf fnw 1424) hh js) ∨ (r = 0 ∧ ¬ AGF (shf fnw 1424) hh js))
set_option maxHeartbeats 4000000 in
set_option maxRecDepth 100000 in
theorem m_isAgainstX (l : Launch) (G : GG) (h0 : Nat) (hh : Int32) (js : Nat) (nw : Nat) (nk : Nat) (mhasKept : Int32) (nt : Nat) (mtaped : Int32) (nr : Nat) (mrowMany : Int32) (mroundOf : Int32) (mroundFrom : Int32) (mouts : Int32) (nm : Nat) (mfromHour : Int32) (mtoHour : Int32) (ns : Nat) (mfrom : Int32) (mto : Int32) (msort : Int32) (misFault : Int32) (mdeep : Int32) (mcoded : Int32) (mlines : Int32) (nl : Nat) (nc : Nat) (nF : Nat) (np : Nat) (ntr : Nat) (nb : Nat) (mbestCost : Int32) (nso : Nat) (nsi : Nat) (nit : Nat) (nsh : Nat) (nsf : Nat) (nss : Nat) (nrc : Nat) (mtraced : Int32) (mdealer : Int32) (mnumber : Int32) (mwhose : Int32) (msize : Int32) (misParted : Int32) (fnw : Nat → Int32) (hjs : js < 16) : K_m_isAgainstX l G h0 hh js nw nk mhasKept nt mtaped nr mrowMany mroundOf mroundFrom mouts nm mfromHour mtoHour ns mfrom mto msort misFault mdeep mcoded mlines nl nc nF np ntr nb mbestCost nso nsi nit nsh nsf nss nrc mtraced mdealer mnumber mwhose msize misParted fnw := by
  refine MP.start (by decide +kernel) (Nat.le_of_ble_eq_true rfl) ?_
  intro p e s m below meth c ls hC hK hP hD hl
  refine absQ (fun Q0 hQ0 => ?_)
  have hl : lv_has ls 3 [(0, .ref h0), (1, .int hh), (2, .int (nI js))] := hl
  refine Kan8 hC (fun hx hb hr hml hB hown hlocks hnm => ?_)
  have hq3 : fnw (1424 + 8 * js + 3) = shf fnw 1424 (js * 8 + 3) := shf_sa.symm
  have hq5 : fnw (1424 + 8 * js + 5) = shf fnw 1424 (js * 8 + 5) := shf_sa.symm
  refine lv_aload_n hx hb gX12_isAgainst_0.1 rfl (lv_at0 hl) ?_
  refine lv_iload_n hx hb gX12_isAgainst_0.2.1 rfl (lv_at2 hl) ?_
  refine lv_iconst (v := 5) hx hb gX12_isAgainst_0.2.2.1 (by decide) ?_
  refine pV hC hK hl hP hD (m_saying l G h0 js 5 nw nk mhasKept nt mtaped nr mrowMany mroundOf mroundFrom mouts nm mfromHour mtoHour ns mfrom mto msort misFault mdeep mcoded mlines nl nc nF np ntr nb mbestCost nso nsi nit nsh nsf nss nrc mtraced mdealer mnumber mwhose msize misParted fnw (hjs) (by omega)) si_X12_114 [0, 1] sm_0_1 fm_0_1 nd_0_1 rfl rfl rfl rfl rfl (Nat.le_of_ble_eq_true rfl) rm_2_1_3 ⟨by first | exact Nat.le_of_ble_eq_true rfl | exact Nat.zero_le _, by first | exact Nat.le_of_ble_eq_true rfl | exact Nat.zero_le _⟩ gX12_isAgainst_0.2.2.2.1 (Keqr ?_)
  refine lv_iconst (v := 1) hx hb gX12_isAgainst_0.2.2.2.2.1 (by decide) ?_
  refine lv_icmp_ne (tgt := 28) hx hb gX12_isAgainst_0.2.2.2.2.2.1 (by decide) (fun c_7_6206 => ?_) (fun c_7_6206 => ?_)
  · refine lv_aload_n hx hb gX12_isAgainst_1.2.2.2.2.2.2.1 rfl (lv_at0 hl) ?_
    refine lv_iload_n hx hb gX12_isAgainst_1.2.2.2.2.2.2.2.1 rfl (lv_at2 hl) ?_
    refine lv_iconst (v := 3) hx hb gX12_isAgainst_1.2.2.2.2.2.2.2.2.1 (by decide) ?_
    refine pV hC hK hl hP hD (m_saying l G h0 js 3 nw nk mhasKept nt mtaped nr mrowMany mroundOf mroundFrom mouts nm mfromHour mtoHour ns mfrom mto msort misFault mdeep mcoded mlines nl nc nF np ntr nb mbestCost nso nsi nit nsh nsf nss nrc mtraced mdealer mnumber mwhose msize misParted fnw (hjs) (by omega)) si_X12_114 [0, 1] sm_0_1 fm_0_1 nd_0_1 rfl rfl rfl rfl rfl (Nat.le_of_ble_eq_true rfl) rm_2_1_3 ⟨by first | exact Nat.le_of_ble_eq_true rfl | exact Nat.zero_le _, by first | exact Nat.le_of_ble_eq_true rfl | exact Nat.zero_le _⟩ gX12_isAgainst_1.2.2.2.2.2.2.2.2.2 (Keqr ?_)
    refine lv_iload_n hx hb gX12_isAgainst_2.1 rfl (lv_at1 hl) ?_
    refine lv_icmp_lt (tgt := 42) hx hb gX12_isAgainst_2.2.1 (by decide) (fun c_35_6209 => ?_) (fun c_35_6209 => ?_)
    · refine lv_iconst (v := 0) hx hb gX12_isAgainst_2.2.2.2.2.1 (by decide) ?_
      refine toQ hQ0 ?_
      exact RP (v := 0) hC (Or.inr ⟨rfl, fun h9 => h9.elim (fun h8 => c_7_6206 (hq5.trans h8.1)) (fun h8 => Int32.not_le.mpr (by rw [← hq3]; exact c_35_6209) h8.2)⟩) (by decide +kernel) gX12_isAgainst_2.2.2.2.2.2
    · refine lv_iconst (v := 1) hx hb gX12_isAgainst_2.2.2.1 (by decide) ?_
      refine lv_goto (tgt := 43) hx hb gX12_isAgainst_2.2.2.2.1 (by decide) ?_
      refine toQ hQ0 ?_
      exact RP (v := 1) hC (Or.inl ⟨rfl, Or.inr ⟨fun h9 => c_7_6206 (hq5.trans h9), by rw [← hq3]; exact Int32.not_lt.mp c_35_6209⟩⟩) (by decide +kernel) gX12_isAgainst_2.2.2.2.2.2
  · refine lv_aload_n hx hb gX12_isAgainst_0.2.2.2.2.2.2.1 rfl (lv_at0 hl) ?_
    refine lv_iload_n hx hb gX12_isAgainst_0.2.2.2.2.2.2.2.1 rfl (lv_at2 hl) ?_
    refine lv_iconst (v := 3) hx hb gX12_isAgainst_0.2.2.2.2.2.2.2.2.1 (by decide) ?_
    refine pV hC hK hl hP hD (m_saying l G h0 js 3 nw nk mhasKept nt mtaped nr mrowMany mroundOf mroundFrom mouts nm mfromHour mtoHour ns mfrom mto msort misFault mdeep mcoded mlines nl nc nF np ntr nb mbestCost nso nsi nit nsh nsf nss nrc mtraced mdealer mnumber mwhose msize misParted fnw (hjs) (by omega)) si_X12_114 [0, 1] sm_0_1 fm_0_1 nd_0_1 rfl rfl rfl rfl rfl (Nat.le_of_ble_eq_true rfl) rm_2_1_3 ⟨by first | exact Nat.le_of_ble_eq_true rfl | exact Nat.zero_le _, by first | exact Nat.le_of_ble_eq_true rfl | exact Nat.zero_le _⟩ gX12_isAgainst_0.2.2.2.2.2.2.2.2.2 (Keqr ?_)
    refine lv_iload_n hx hb gX12_isAgainst_1.1 rfl (lv_at1 hl) ?_
    refine lv_icmp_ge (tgt := 24) hx hb gX12_isAgainst_1.2.1 (by decide) (fun c_17_6212 => ?_) (fun c_17_6212 => ?_)
    · refine lv_iconst (v := 0) hx hb gX12_isAgainst_1.2.2.2.2.1 (by decide) ?_
      refine lv_goto (tgt := 43) hx hb gX12_isAgainst_1.2.2.2.2.2.1 (by decide) ?_
      refine toQ hQ0 ?_
      exact RP (v := 0) hC (Or.inr ⟨rfl, fun h9 => h9.elim (fun h8 => Int32.not_lt.mpr (by rw [← hq3]; exact c_17_6212) h8.2) (fun h8 => h8.1 (hq5.symm.trans c_7_6206))⟩) (by decide +kernel) gX12_isAgainst_2.2.2.2.2.2
    · refine lv_iconst (v := 1) hx hb gX12_isAgainst_1.2.2.1 (by decide) ?_
      refine lv_goto (tgt := 43) hx hb gX12_isAgainst_1.2.2.2.1 (by decide) ?_
      refine toQ hQ0 ?_
      exact RP (v := 1) hC (Or.inl ⟨rfl, Or.inl ⟨hq5.symm.trans c_7_6206, by rw [← hq3]; exact Int32.not_le.mp c_17_6212⟩⟩) (by decide +kernel) gX12_isAgainst_2.2.2.2.2.2
def K_m_findHoursC (l : Launch) (G : GG) (kq : Nat) (k6 : Nat) (h0 : Nat) (jp : Nat) (je : Nat) (nw : Nat) (nk : Nat) (mhasKept : Int32) (nt : Nat) (mtaped : Int32) (nr : Nat) (mrowMany : Int32) (mroundOf : Int32) (mroundFrom : Int32) (nm : Nat) (mfromHour : Int32) (mtoHour : Int32) (ns : Nat) (mfrom : Int32) (mto : Int32) (msort : Int32) (misFault : Int32) (mdeep : Int32) (mcoded : Int32) (mlines : Int32) (nl : Nat) (nc : Nat) (nF : Nat) (np : Nat) (ntr : Nat) (nb : Nat) (mbestCost : Int32) (nso : Nat) (nsi : Nat) (nit : Nat) (nsh : Nat) (nsf : Nat) (nss : Nat) (nrc : Nat) (mtraced : Int32) (mdealer : Int32) (mnumber : Int32) (mwhose : Int32) (msize : Int32) (misParted : Int32) (fnw : Nat → Int32) (fnm : Nat → Int32) : Prop := MV l G yX12_findHours cX12_findHours 4 5 0 0 [.ref h0, .int (nI jp), .int (nI je), .int 1] [(h0, oX12 nw nk mhasKept nt mtaped nr mrowMany mroundOf mroundFrom 0 nm mfromHour mtoHour ns mfrom mto msort misFault mdeep mcoded mlines nl nc nF np ntr nb mbestCost nso nsi nit nsh nsf nss nrc mtraced mdealer mnumber mwhose msize misParted), (nw, iA G 1662 fnw), (nm, iA G 36 fnm)] (fun u : Int32 × Int32 => HIQ (KST (shf fnw 104) (VSE fnw kq) (fnw 3).toInt k6) (shf fnw 104) (VSE fnw kq) (shf fnw 32 (jp * 6 + 0)) (shf fnw 32 (jp * 6 + 1)) (shf fnw 12 (je * 2 + 1)) k6 jp je u.1 u.2) (fun u : Int32 × Int32 => [(h0, oX12 nw nk mhasKept nt mtaped nr mrowMany mroundOf mroundFrom 0 nm u.1 u.2 ns mfrom mto msort misFault mdeep mcoded mlines nl nc nF np ntr nb mbestCost nso nsi nit nsh nsf nss nrc mtraced mdealer mnumber mwhose msize misParted), (nw, iA G 1662 fnw), (nm, iA G 36 fnm)])
set_option maxHeartbeats 4000000 in
set_option maxRecDepth 100000 in
theorem m_findHoursC (l : Launch) (G : GG) (kq : Nat) (k6 : Nat) (h0 : Nat) (jp : Nat) (je : Nat) (nw : Nat) (nk : Nat) (mhasKept : Int32) (nt : Nat) (mtaped : Int32) (nr : Nat) (mrowMany : Int32) (mroundOf : Int32) (mroundFrom : Int32) (nm : Nat) (mfromHour : Int32) (mtoHour : Int32) (ns : Nat) (mfrom : Int32) (mto : Int32) (msort : Int32) (misFault : Int32) (mdeep : Int32) (mcoded : Int32) (mlines : Int32) (nl : Nat) (nc : Nat) (nF : Nat) (np : Nat) (ntr : Nat) (nb : Nat) (mbestCost : Int32) (nso : Nat) (nsi : Nat) (nit : Nat) (nsh : Nat) (nsf : Nat) (nss : Nat) (nrc : Nat) (mtraced : Int32) (mdealer : Int32) (mnumber : Int32) (mwhose : Int32) (msize : Int32) (misParted : Int32) (fnw : Nat → Int32) (fnm : Nat → Int32) (e6 : fnw 6 = nI k6) (hk6 : k6 ≤ 24) (ekq : fnw 5 = nI kq) (hno : NOS (KST (shf fnw 104) (VSE fnw kq) (fnw 3).toInt k6)) (hjp : jp < 12) : K_m_findHoursC l G kq k6 h0 jp je nw nk mhasKept nt mtaped nr mrowMany mroundOf mroundFrom nm mfromHour mtoHour ns mfrom mto msort misFault mdeep mcoded mlines nl nc nF np ntr nb mbestCost nso nsi nit nsh nsf nss nrc mtraced mdealer mnumber mwhose msize misParted fnw fnm := by
  refine MV.start (by decide +kernel) (Nat.le_of_ble_eq_true rfl) ?_
  intro p e s m below meth c A ls hC hK hP hD hS hA hl
  refine absQ (fun Q0 hQ0 => ?_)
  have hl : lv_has ls 4 [(0, .ref h0), (1, .int (nI jp)), (2, .int (nI je)), (3, .int 1)] := hl
  refine Kan8 hC (fun hx hb hr hml hB hown hlocks hnm => ?_)
  refine lv_aload_n hx hb gX12_findHours_0.1 rfl (lv_at0 hl) ?_
  refine lv_iload_n hx hb gX12_findHours_0.2.1 rfl (lv_at1 hl) ?_
  refine lv_iload_n hx hb gX12_findHours_0.2.2.1 rfl (lv_at2 hl) ?_
  refine lv_iload_n hx hb gX12_findHours_0.2.2.2.1 rfl (lv_at3 hl) ?_
  refine pV hC hK hl hP hD (m_inHandC l G k6 h0 jp je nw nk mhasKept nt mtaped nr mrowMany mroundOf mroundFrom 0 nm mfromHour mtoHour ns mfrom mto msort misFault mdeep mcoded mlines nl nc nF np ntr nb mbestCost nso nsi nit nsh nsf nss nrc mtraced mdealer mnumber mwhose msize misParted fnw (e6) (hk6) (hjp)) si_X12_171 [0, 1] sm_0_1 fm_0_1 nd_0_1 rfl rfl rfl rfl rfl (Nat.le_of_ble_eq_true rfl) rm_5_4_4 ⟨by first | exact Nat.le_of_ble_eq_true rfl | exact Nat.zero_le _, by first | exact Nat.le_of_ble_eq_true rfl | exact Nat.zero_le _⟩ gX12_findHours_0.2.2.2.2.1 (Keqr ?_)
  refine lv_if_ne (tgt := 22) hx hb gX12_findHours_0.2.2.2.2.2.1 (by decide) (fun c9 => absurd (by decide) c9) (fun _ => ?_)
  refine lv_aload_n hx hb gX12_findHours_0.2.2.2.2.2.2.1 rfl (lv_at0 hl) ?_
  refine lv_iconst (v := 0) hx hb gX12_findHours_0.2.2.2.2.2.2.2.1 (by decide) ?_
  refine pf_X12_161 hC rfl hK hP hD hS 0 (ws' := [(h0, oX12 nw nk mhasKept nt mtaped nr mrowMany mroundOf mroundFrom 0 nm 0 mtoHour ns mfrom mto msort misFault mdeep mcoded mlines nl nc nF np ntr nb mbestCost nso nsi nit nsh nsf nss nrc mtraced mdealer mnumber mwhose msize misParted), (nw, iA G 1662 fnw), (nm, iA G 36 fnm)]) rfl (Nat.le_of_ble_eq_true rfl) rfl rfl rfl gX12_findHours_0.2.2.2.2.2.2.2.2.1 (fun H locs hP hD hS => ?_)
  refine lv_aload_n hx hb gX12_findHours_0.2.2.2.2.2.2.2.2.2 rfl (lv_at0 hl) ?_
  refine lv_sipush (v := 1000) hx hb gX12_findHours_1.1 (by decide) ?_
  refine pf_X12_164 hC rfl hK hP hD hS 0 (ws' := [(h0, oX12 nw nk mhasKept nt mtaped nr mrowMany mroundOf mroundFrom 0 nm 0 1000 ns mfrom mto msort misFault mdeep mcoded mlines nl nc nF np ntr nb mbestCost nso nsi nit nsh nsf nss nrc mtraced mdealer mnumber mwhose msize misParted), (nw, iA G 1662 fnw), (nm, iA G 36 fnm)]) rfl (Nat.le_of_ble_eq_true rfl) rfl rfl rfl gX12_findHours_1.2.1 (fun H locs hP hD hS => ?_)
  refine toQ hQ0 ?_
  exact RV hC hP hD hS [0, 1, 2] (0, 1000) rfl rfl (by decide) (Or.inr ⟨Or.inl hno, rfl, rfl⟩) gX12_findHours_1.2.2
def K_m_findHoursL (l : Launch) (G : GG) (kq : Nat) (k6 : Nat) (h0 : Nat) (jp : Nat) (je : Nat) (nw : Nat) (nk : Nat) (mhasKept : Int32) (nt : Nat) (mtaped : Int32) (nr : Nat) (mrowMany : Int32) (mroundOf : Int32) (mroundFrom : Int32) (nm : Nat) (mfromHour : Int32) (mtoHour : Int32) (ns : Nat) (mfrom : Int32) (mto : Int32) (msort : Int32) (misFault : Int32) (mdeep : Int32) (mcoded : Int32) (mlines : Int32) (nl : Nat) (nc : Nat) (nF : Nat) (np : Nat) (ntr : Nat) (nb : Nat) (mbestCost : Int32) (nso : Nat) (nsi : Nat) (nit : Nat) (nsh : Nat) (nsf : Nat) (nss : Nat) (nrc : Nat) (mtraced : Int32) (mdealer : Int32) (mnumber : Int32) (mwhose : Int32) (msize : Int32) (misParted : Int32) (fnw : Nat → Int32) (fnm : Nat → Int32) : Prop := MV l G yX12_findHours cX12_findHours 4 5 0 0 [.ref h0, .int (nI jp), .int (nI je), .int 0] [(h0, oX12 nw nk mhasKept nt mtaped nr mrowMany mroundOf mroundFrom 0 nm mfromHour mtoHour ns mfrom mto msort misFault mdeep mcoded mlines nl nc nF np ntr nb mbestCost nso nsi nit nsh nsf nss nrc mtraced mdealer mnumber mwhose msize misParted), (nw, iA G 1662 fnw), (nm, iA G 36 fnm)] (fun u : Int32 × Int32 => HIQ (KST (shf fnw 104) (VSE fnw kq) (fnw 3).toInt k6) (shf fnw 104) (VSE fnw kq) (shf fnw 32 (jp * 6 + 0)) (shf fnw 32 (jp * 6 + 1)) (shf fnw 12 (je * 2 + 1)) k6 jp je u.1 u.2) (fun u : Int32 × Int32 => [(h0, oX12 nw nk mhasKept nt mtaped nr mrowMany mroundOf mroundFrom 0 nm u.1 u.2 ns mfrom mto msort misFault mdeep mcoded mlines nl nc nF np ntr nb mbestCost nso nsi nit nsh nsf nss nrc mtraced mdealer mnumber mwhose msize misParted), (nw, iA G 1662 fnw), (nm, iA G 36 fnm)])
set_option maxHeartbeats 4000000 in
set_option maxRecDepth 100000 in
theorem m_findHoursL (l : Launch) (G : GG) (kq : Nat) (k6 : Nat) (h0 : Nat) (jp : Nat) (je : Nat) (nw : Nat) (nk : Nat) (mhasKept : Int32) (nt : Nat) (mtaped : Int32) (nr : Nat) (mrowMany : Int32) (mroundOf : Int32) (mroundFrom : Int32) (nm : Nat) (mfromHour : Int32) (mtoHour : Int32) (ns : Nat) (mfrom : Int32) (mto : Int32) (msort : Int32) (misFault : Int32) (mdeep : Int32) (mcoded : Int32) (mlines : Int32) (nl : Nat) (nc : Nat) (nF : Nat) (np : Nat) (ntr : Nat) (nb : Nat) (mbestCost : Int32) (nso : Nat) (nsi : Nat) (nit : Nat) (nsh : Nat) (nsf : Nat) (nss : Nat) (nrc : Nat) (mtraced : Int32) (mdealer : Int32) (mnumber : Int32) (mwhose : Int32) (msize : Int32) (misParted : Int32) (fnw : Nat → Int32) (fnm : Nat → Int32) (hN : NI fnw) (e6 : fnw 6 = nI k6) (hk6 : k6 ≤ 24) (hcb : CLB (KST (shf fnw 104) (VSE fnw kq) (fnw 3).toInt k6) (MAT fnm)) (ekq : fnw 5 = nI kq) (hkq : kq ≤ 12) (hjp : jp < kq) (hje : je < 10) : K_m_findHoursL l G kq k6 h0 jp je nw nk mhasKept nt mtaped nr mrowMany mroundOf mroundFrom nm mfromHour mtoHour ns mfrom mto msort misFault mdeep mcoded mlines nl nc nF np ntr nb mbestCost nso nsi nit nsh nsf nss nrc mtraced mdealer mnumber mwhose msize misParted fnw fnm := by
  refine MV.start (by decide +kernel) (Nat.le_of_ble_eq_true rfl) ?_
  intro p e s m below meth c A ls hC hK hP hD hS hA hl
  refine absQ (fun Q0 hQ0 => ?_)
  have hl : lv_has ls 4 [(0, .ref h0), (1, .int (nI jp)), (2, .int (nI je)), (3, .int 0)] := hl
  refine Kan8 hC (fun hx hb hr hml hB hown hlocks hnm => ?_)
  refine lv_aload_n hx hb gX12_findHours_0.1 rfl (lv_at0 hl) ?_
  refine lv_iload_n hx hb gX12_findHours_0.2.1 rfl (lv_at1 hl) ?_
  refine lv_iload_n hx hb gX12_findHours_0.2.2.1 rfl (lv_at2 hl) ?_
  refine lv_iload_n hx hb gX12_findHours_0.2.2.2.1 rfl (lv_at3 hl) ?_
  refine iV (wr := []) hC hK hl hP hD hS hA (m_inHandL l G kq k6 h0 jp je nw nk mhasKept nt mtaped nr mrowMany mroundOf mroundFrom nm mfromHour mtoHour ns mfrom mto msort misFault mdeep mcoded mlines nl nc nF np ntr nb mbestCost nso nsi nit nsh nsf nss nrc mtraced mdealer mnumber mwhose msize misParted fnw fnm (hN) (e6) (hk6) (ekq) (hjp) (hkq) (hje)) si_X12_171 [0, 1, 2] [] sm_0_1_2 fm_0_1_2 nd_0_1_2 rfl rfl (by decide) rfl rfl rfl rfl rfl (Nat.le_of_ble_eq_true rfl) rm_5_4_4 ⟨Nat.le_of_ble_eq_true rfl, Nat.le_of_ble_eq_true rfl⟩ gX12_findHours_0.2.2.2.2.1 (fun r6215 => Ktu2 fun fh16217 th16218 => ?_)
  intro H locs hr6215 hP hD hS
  try dsimp only at hr6215
  refine Kpdr (ws := [(h0, oX12 nw nk mhasKept nt mtaped nr mrowMany mroundOf mroundFrom 0 nm fh16217 th16218 ns mfrom mto msort misFault mdeep mcoded mlines nl nc nF np ntr nb mbestCost nso nsi nit nsh nsf nss nrc mtraced mdealer mnumber mwhose msize misParted), (nw, iA G 1662 fnw), (nm, iA G 36 fnm)]) hP hD (fun hP hD => ?_)
  rcases hr6215 with ⟨rfl, a6219⟩ | ⟨rfl, a6219⟩
  · refine lv_if_ne (tgt := 22) hx hb gX12_findHours_0.2.2.2.2.2.1 (by decide) (fun _ => ?_) (fun c9 => absurd c9 (by decide))
    refine toQ hQ0 ?_
    exact RV hC hP hD hS [0, 1, 2] (fh16217, th16218) rfl rfl (by decide) (HIQ.re (Or.inl (HIQ.rb (by omega) hcb a6219))) gX12_findHours_1.2.2
  · refine lv_if_ne (tgt := 22) hx hb gX12_findHours_0.2.2.2.2.2.1 (by decide) (fun c9 => absurd (by decide) c9) (fun _ => ?_)
    refine lv_aload_n hx hb gX12_findHours_0.2.2.2.2.2.2.1 rfl (lv_at0 hl) ?_
    refine lv_iconst (v := 0) hx hb gX12_findHours_0.2.2.2.2.2.2.2.1 (by decide) ?_
    refine pf_X12_161 hC rfl hK hP hD hS 0 (ws' := [(h0, oX12 nw nk mhasKept nt mtaped nr mrowMany mroundOf mroundFrom 0 nm 0 th16218 ns mfrom mto msort misFault mdeep mcoded mlines nl nc nF np ntr nb mbestCost nso nsi nit nsh nsf nss nrc mtraced mdealer mnumber mwhose msize misParted), (nw, iA G 1662 fnw), (nm, iA G 36 fnm)]) rfl (Nat.le_of_ble_eq_true rfl) rfl rfl rfl gX12_findHours_0.2.2.2.2.2.2.2.2.1 (fun H locs hP hD hS => ?_)
    refine lv_aload_n hx hb gX12_findHours_0.2.2.2.2.2.2.2.2.2 rfl (lv_at0 hl) ?_
    refine lv_sipush (v := 1000) hx hb gX12_findHours_1.1 (by decide) ?_
    refine pf_X12_164 hC rfl hK hP hD hS 0 (ws' := [(h0, oX12 nw nk mhasKept nt mtaped nr mrowMany mroundOf mroundFrom 0 nm 0 1000 ns mfrom mto msort misFault mdeep mcoded mlines nl nc nF np ntr nb mbestCost nso nsi nit nsh nsf nss nrc mtraced mdealer mnumber mwhose msize misParted), (nw, iA G 1662 fnw), (nm, iA G 36 fnm)]) rfl (Nat.le_of_ble_eq_true rfl) rfl rfl rfl gX12_findHours_1.2.1 (fun H locs hP hD hS => ?_)
    refine toQ hQ0 ?_
    exact RV hC hP hD hS [0, 1, 2] (0, 1000) rfl rfl (by decide) (Or.inr ⟨NIQ.rn (by rw [shf_pa, shf_pa]; exact a6219), rfl, rfl⟩) gX12_findHours_1.2.2
def K_m_isInO (l : Launch) (G : GG) (h0 : Nat) (jp : Nat) (nw : Nat) (nk : Nat) (mhasKept : Int32) (nt : Nat) (mtaped : Int32) (nr : Nat) (mrowMany : Int32) (mroundOf : Int32) (mroundFrom : Int32) (jw : Nat) (nm : Nat) (mfromHour : Int32) (mtoHour : Int32) (ns : Nat) (mfrom : Int32) (mto : Int32) (msort : Int32) (misFault : Int32) (mdeep : Int32) (mcoded : Int32) (mlines : Int32) (nl : Nat) (nc : Nat) (nF : Nat) (np : Nat) (ntr : Nat) (nb : Nat) (mbestCost : Int32) (nso : Nat) (nsi : Nat) (nit : Nat) (nsh : Nat) (nsf : Nat) (nss : Nat) (nrc : Nat) (mtraced : Int32) (mdealer : Int32) (mnumber : Int32) (mwhose : Int32) (msize : Int32) (misParted : Int32) (fnw : Nat → Int32) : Prop := MP l G yX12_isIn cX12_isIn 3 (some .boolean) 2 [.ref h0, .int (nI jp)] [(h0, oX12 nw nk mhasKept nt mtaped nr mrowMany mroundOf mroundFrom (nI jw) nm mfromHour mtoHour ns mfrom mto msort misFault mdeep mcoded mlines nl nc nF np ntr nb mbestCost nso nsi nit nsh nsf nss nrc mtraced mdealer mnumber mwhose msize misParted), (nw, iA G 1662 fnw)] (fun r : Int32 => (r = 1 ∧ SEO (shf fnw 32) (fnw 0) (fnw 1) (fnw 2) jw jp) ∨ (r = 0 ∧ ¬ SEO (shf fnw 32) (fnw 0) (fnw 1) (fnw 2) jw jp))
set_option maxHeartbeats 4000000 in
set_option maxRecDepth 100000 in
theorem m_isInO (l : Launch) (G : GG) (h0 : Nat) (jp : Nat) (nw : Nat) (nk : Nat) (mhasKept : Int32) (nt : Nat) (mtaped : Int32) (nr : Nat) (mrowMany : Int32) (mroundOf : Int32) (mroundFrom : Int32) (jw : Nat) (nm : Nat) (mfromHour : Int32) (mtoHour : Int32) (ns : Nat) (mfrom : Int32) (mto : Int32) (msort : Int32) (misFault : Int32) (mdeep : Int32) (mcoded : Int32) (mlines : Int32) (nl : Nat) (nc : Nat) (nF : Nat) (np : Nat) (ntr : Nat) (nb : Nat) (mbestCost : Int32) (nso : Nat) (nsi : Nat) (nit : Nat) (nsh : Nat) (nsf : Nat) (nss : Nat) (nrc : Nat) (mtraced : Int32) (mdealer : Int32) (mnumber : Int32) (mwhose : Int32) (msize : Int32) (misParted : Int32) (fnw : Nat → Int32) (hjp : jp < 12) (hjw : jw < 4096) : K_m_isInO l G h0 jp nw nk mhasKept nt mtaped nr mrowMany mroundOf mroundFrom jw nm mfromHour mtoHour ns mfrom mto msort misFault mdeep mcoded mlines nl nc nF np ntr nb mbestCost nso nsi nit nsh nsf nss nrc mtraced mdealer mnumber mwhose msize misParted fnw := by
  refine MP.start (by decide +kernel) (Nat.le_of_ble_eq_true rfl) ?_
  intro p e s m below meth c ls hC hK hP hD hl
  refine absQ (fun Q0 hQ0 => ?_)
  have hl : lv_has ls 3 [(0, .ref h0), (1, .int (nI jp))] := hl
  refine Kan8 hC (fun hx hb hr hml hB hown hlocks hnm => ?_)
  have hq3 : fnw (32 + 6 * jp + 3) = shf fnw 32 (jp * 6 + 3) := congrArg fnw (by omega)
  have hq4 : fnw (32 + 6 * jp + 4) = shf fnw 32 (jp * 6 + 4) := congrArg fnw (by omega)
  have hq5 : fnw (32 + 6 * jp + 5) = shf fnw 32 (jp * 6 + 5) := congrArg fnw (by omega)
  refine lv_aload_n hx hb gX12_isIn_0.1 rfl (lv_at0 hl) ?_
  refine lv_iload_n hx hb gX12_isIn_0.2.1 rfl (lv_at1 hl) ?_
  refine lv_iconst (v := 5) hx hb gX12_isIn_0.2.2.1 (by decide) ?_
  refine pV hC hK hl hP hD (m_paper l G h0 jp 5 nw nk mhasKept nt mtaped nr mrowMany mroundOf mroundFrom (nI jw) nm mfromHour mtoHour ns mfrom mto msort misFault mdeep mcoded mlines nl nc nF np ntr nb mbestCost nso nsi nit nsh nsf nss nrc mtraced mdealer mnumber mwhose msize misParted fnw (hjp) (by omega)) si_X12_88 [0, 1] sm_0_1 fm_0_1 nd_0_1 rfl rfl rfl rfl rfl (Nat.le_of_ble_eq_true rfl) rm_2_1_3 ⟨by first | exact Nat.le_of_ble_eq_true rfl | exact Nat.zero_le _, by first | exact Nat.le_of_ble_eq_true rfl | exact Nat.zero_le _⟩ gX12_isIn_0.2.2.2.1 (Keqr ?_)
  refine lv_if_lt (tgt := 26) hx hb gX12_isIn_0.2.2.2.2.1 (by decide) (fun c_6_6222 => ?_) (fun c_6_6222 => ?_)
  · refine lv_iconst (v := 0) hx hb gX12_isIn_1.2.2.2.2.1 (by decide) ?_
    refine lv_istore_n (lv' := [(2, .int 0), (0, .ref h0), (1, .int (nI jp))]) hx hb gX12_isIn_1.2.2.2.2.2.1 rfl hl (by decide) rfl (fun ls hl => ?_)
    refine lv_aload_n hx hb gX12_isIn_1.2.2.2.2.2.2.1 rfl (lv_at1 hl) ?_
    refine lv_iload_n hx hb gX12_isIn_1.2.2.2.2.2.2.2.1 rfl (lv_at2 hl) ?_
    refine lv_iconst (v := 4) hx hb gX12_isIn_1.2.2.2.2.2.2.2.2.1 (by decide) ?_
    refine pV hC hK hl hP hD (m_paper l G h0 jp 4 nw nk mhasKept nt mtaped nr mrowMany mroundOf mroundFrom (nI jw) nm mfromHour mtoHour ns mfrom mto msort misFault mdeep mcoded mlines nl nc nF np ntr nb mbestCost nso nsi nit nsh nsf nss nrc mtraced mdealer mnumber mwhose msize misParted fnw (hjp) (by omega)) si_X12_88 [0, 1] sm_0_1 fm_0_1 nd_0_1 rfl rfl rfl rfl rfl (Nat.le_of_ble_eq_true rfl) rm_2_1_3 ⟨by first | exact Nat.le_of_ble_eq_true rfl | exact Nat.zero_le _, by first | exact Nat.le_of_ble_eq_true rfl | exact Nat.zero_le _⟩ gX12_isIn_1.2.2.2.2.2.2.2.2.2 (Keqr ?_)
    refine lv_aload_n hx hb gX12_isIn_2.1 rfl (lv_at1 hl) ?_
    refine pV hC hK hl hP hD (m_dayX l G h0 nw nk mhasKept nt mtaped nr mrowMany mroundOf mroundFrom (nI jw) nm mfromHour mtoHour ns mfrom mto msort misFault mdeep mcoded mlines nl nc nF np ntr nb mbestCost nso nsi nit nsh nsf nss nrc mtraced mdealer mnumber mwhose msize misParted fnw) si_X12_92 [0, 1] sm_0_1 fm_0_1 nd_0_1 rfl rfl rfl rfl rfl (Nat.le_of_ble_eq_true rfl) rm_2_1_1 ⟨by first | exact Nat.le_of_ble_eq_true rfl | exact Nat.zero_le _, by first | exact Nat.le_of_ble_eq_true rfl | exact Nat.zero_le _⟩ gX12_isIn_2.2.1 (Keqr ?_)
    refine lv_icmp_gt (tgt := 75) hx hb gX12_isIn_2.2.2.1 (by decide) (fun c_38_6227 => ?_) (fun c_38_6227 => ?_)
    · refine lv_iconst (v := 0) hx hb gX12_isIn_4.2.1 (by decide) ?_
      refine toQ hQ0 ?_
      exact RP (v := 0) hC (Or.inr ⟨rfl, fun h9 => absurd h9.1 (fun h9 => Int32.not_le.mpr (hq4 ▸ c_38_6227) h9.1)⟩) (by decide +kernel) gX12_isIn_4.2.2
    · refine lv_aload_n hx hb gX12_isIn_2.2.2.2.1 rfl (lv_at1 hl) ?_
      refine lv_iload_n hx hb gX12_isIn_2.2.2.2.2.1 rfl (lv_at2 hl) ?_
      refine lv_iconst (v := 3) hx hb gX12_isIn_2.2.2.2.2.2.1 (by decide) ?_
      refine pV hC hK hl hP hD (m_paper l G h0 jp 3 nw nk mhasKept nt mtaped nr mrowMany mroundOf mroundFrom (nI jw) nm mfromHour mtoHour ns mfrom mto msort misFault mdeep mcoded mlines nl nc nF np ntr nb mbestCost nso nsi nit nsh nsf nss nrc mtraced mdealer mnumber mwhose msize misParted fnw (hjp) (by omega)) si_X12_88 [0, 1] sm_0_1 fm_0_1 nd_0_1 rfl rfl rfl rfl rfl (Nat.le_of_ble_eq_true rfl) rm_2_1_3 ⟨by first | exact Nat.le_of_ble_eq_true rfl | exact Nat.zero_le _, by first | exact Nat.le_of_ble_eq_true rfl | exact Nat.zero_le _⟩ gX12_isIn_2.2.2.2.2.2.2.1 (Keqr ?_)
      refine lv_aload_n hx hb gX12_isIn_2.2.2.2.2.2.2.2.1 rfl (lv_at1 hl) ?_
      refine gf_X12_9 hC rfl hK hP 0 rfl rfl gX12_isIn_2.2.2.2.2.2.2.2.2.1 ?_
      refine lv_iconst (v := 2) hx hb gX12_isIn_2.2.2.2.2.2.2.2.2.2 (by decide) ?_
      refine ald hC hK hP 1 rfl (vin (by decide +kernel)) (k := 2) (by decide +kernel) (v := fnw 2) (rfl) gX12_isIn_3.1 ?_
      refine lv_icmp_gt (tgt := 75) hx hb gX12_isIn_3.2.1 (by decide) (fun c_53_6230 => ?_) (fun c_53_6230 => ?_)
      · refine lv_iconst (v := 0) hx hb gX12_isIn_4.2.1 (by decide) ?_
        refine toQ hQ0 ?_
        exact RP (v := 0) hC (Or.inr ⟨rfl, fun h9 => absurd h9.1 (fun h9 => Int32.not_le.mpr (hq3 ▸ c_53_6230) h9.2.1)⟩) (by decide +kernel) gX12_isIn_4.2.2
      · refine lv_iload_n hx hb gX12_isIn_3.2.2.1 rfl (lv_at0 hl) ?_
        refine lv_if_ne (tgt := 75) hx hb gX12_isIn_3.2.2.2.1 (by decide) (fun c9 => absurd (by decide) c9) (fun _ => ?_)
        refine lv_aload_n hx hb gX12_isIn_3.2.2.2.2.1 rfl (lv_at1 hl) ?_
        refine gf_X12_96 hC rfl hK hP 0 rfl rfl gX12_isIn_3.2.2.2.2.2.1 ?_
        refine lv_iload_n hx hb gX12_isIn_3.2.2.2.2.2.2.1 rfl (lv_at2 hl) ?_
        refine pS hC hK hl (m_has l G (nI jw) (nI jp)) si_X12_99 rfl rfl (Nat.le_of_ble_eq_true rfl) rm_2_1_2 ⟨by first | exact Nat.le_of_ble_eq_true rfl | exact Nat.zero_le _, by first | exact Nat.le_of_ble_eq_true rfl | exact Nat.zero_le _⟩ gX12_isIn_3.2.2.2.2.2.2.2.1 (Kors (Keqa fun a6232 => ?_) (Keqa fun a6232 => ?_))
        · refine lv_if_ne (tgt := 75) hx hb gX12_isIn_3.2.2.2.2.2.2.2.2.1 (by decide) (fun _ => ?_) (fun c9 => absurd c9 (by decide))
          refine lv_iconst (v := 0) hx hb gX12_isIn_4.2.1 (by decide) ?_
          refine toQ hQ0 ?_
          exact RP (v := 0) hC (Or.inr ⟨rfl, fun h9 => absurd h9.2 (tb_ye (by omega) (by omega) a6232)⟩) (by decide +kernel) gX12_isIn_4.2.2
        · refine lv_if_ne (tgt := 75) hx hb gX12_isIn_3.2.2.2.2.2.2.2.2.1 (by decide) (fun c9 => absurd (by decide) c9) (fun _ => ?_)
          refine lv_iconst (v := 1) hx hb gX12_isIn_3.2.2.2.2.2.2.2.2.2 (by decide) ?_
          refine lv_goto (tgt := 76) hx hb gX12_isIn_4.1 (by decide) ?_
          refine toQ hQ0 ?_
          exact RP (v := 1) hC (Or.inl ⟨rfl, ⟨Int32.not_lt.mp (hq4 ▸ c_38_6227), Int32.not_lt.mp (hq3 ▸ c_53_6230), (fun h9 => Int32.not_le.mpr (hq5 ▸ c_6_6222) h9.1)⟩, tb_no (by omega) (by omega) a6232⟩) (by decide +kernel) gX12_isIn_4.2.2
  · refine lv_aload_n hx hb gX12_isIn_0.2.2.2.2.2.1 rfl (lv_at0 hl) ?_
    refine lv_iload_n hx hb gX12_isIn_0.2.2.2.2.2.2.1 rfl (lv_at1 hl) ?_
    refine lv_iconst (v := 5) hx hb gX12_isIn_0.2.2.2.2.2.2.2.1 (by decide) ?_
    refine pV hC hK hl hP hD (m_paper l G h0 jp 5 nw nk mhasKept nt mtaped nr mrowMany mroundOf mroundFrom (nI jw) nm mfromHour mtoHour ns mfrom mto msort misFault mdeep mcoded mlines nl nc nF np ntr nb mbestCost nso nsi nit nsh nsf nss nrc mtraced mdealer mnumber mwhose msize misParted fnw (hjp) (by omega)) si_X12_88 [0, 1] sm_0_1 fm_0_1 nd_0_1 rfl rfl rfl rfl rfl (Nat.le_of_ble_eq_true rfl) rm_2_1_3 ⟨by first | exact Nat.le_of_ble_eq_true rfl | exact Nat.zero_le _, by first | exact Nat.le_of_ble_eq_true rfl | exact Nat.zero_le _⟩ gX12_isIn_0.2.2.2.2.2.2.2.2.1 (Keqr ?_)
    refine lv_aload_n hx hb gX12_isIn_0.2.2.2.2.2.2.2.2.2 rfl (lv_at0 hl) ?_
    refine pV hC hK hl hP hD (m_dayX l G h0 nw nk mhasKept nt mtaped nr mrowMany mroundOf mroundFrom (nI jw) nm mfromHour mtoHour ns mfrom mto msort misFault mdeep mcoded mlines nl nc nF np ntr nb mbestCost nso nsi nit nsh nsf nss nrc mtraced mdealer mnumber mwhose msize misParted fnw) si_X12_92 [0, 1] sm_0_1 fm_0_1 nd_0_1 rfl rfl rfl rfl rfl (Nat.le_of_ble_eq_true rfl) rm_2_1_1 ⟨by first | exact Nat.le_of_ble_eq_true rfl | exact Nat.zero_le _, by first | exact Nat.le_of_ble_eq_true rfl | exact Nat.zero_le _⟩ gX12_isIn_1.1 (Keqr ?_)
    refine lv_icmp_gt (tgt := 26) hx hb gX12_isIn_1.2.1 (by decide) (fun c_19_6237 => ?_) (fun c_19_6237 => ?_)
    · refine lv_iconst (v := 0) hx hb gX12_isIn_1.2.2.2.2.1 (by decide) ?_
      refine lv_istore_n (lv' := [(2, .int 0), (0, .ref h0), (1, .int (nI jp))]) hx hb gX12_isIn_1.2.2.2.2.2.1 rfl hl (by decide) rfl (fun ls hl => ?_)
      refine lv_aload_n hx hb gX12_isIn_1.2.2.2.2.2.2.1 rfl (lv_at1 hl) ?_
      refine lv_iload_n hx hb gX12_isIn_1.2.2.2.2.2.2.2.1 rfl (lv_at2 hl) ?_
      refine lv_iconst (v := 4) hx hb gX12_isIn_1.2.2.2.2.2.2.2.2.1 (by decide) ?_
      refine pV hC hK hl hP hD (m_paper l G h0 jp 4 nw nk mhasKept nt mtaped nr mrowMany mroundOf mroundFrom (nI jw) nm mfromHour mtoHour ns mfrom mto msort misFault mdeep mcoded mlines nl nc nF np ntr nb mbestCost nso nsi nit nsh nsf nss nrc mtraced mdealer mnumber mwhose msize misParted fnw (hjp) (by omega)) si_X12_88 [0, 1] sm_0_1 fm_0_1 nd_0_1 rfl rfl rfl rfl rfl (Nat.le_of_ble_eq_true rfl) rm_2_1_3 ⟨by first | exact Nat.le_of_ble_eq_true rfl | exact Nat.zero_le _, by first | exact Nat.le_of_ble_eq_true rfl | exact Nat.zero_le _⟩ gX12_isIn_1.2.2.2.2.2.2.2.2.2 (Keqr ?_)
      refine lv_aload_n hx hb gX12_isIn_2.1 rfl (lv_at1 hl) ?_
      refine pV hC hK hl hP hD (m_dayX l G h0 nw nk mhasKept nt mtaped nr mrowMany mroundOf mroundFrom (nI jw) nm mfromHour mtoHour ns mfrom mto msort misFault mdeep mcoded mlines nl nc nF np ntr nb mbestCost nso nsi nit nsh nsf nss nrc mtraced mdealer mnumber mwhose msize misParted fnw) si_X12_92 [0, 1] sm_0_1 fm_0_1 nd_0_1 rfl rfl rfl rfl rfl (Nat.le_of_ble_eq_true rfl) rm_2_1_1 ⟨by first | exact Nat.le_of_ble_eq_true rfl | exact Nat.zero_le _, by first | exact Nat.le_of_ble_eq_true rfl | exact Nat.zero_le _⟩ gX12_isIn_2.2.1 (Keqr ?_)
      refine lv_icmp_gt (tgt := 75) hx hb gX12_isIn_2.2.2.1 (by decide) (fun c_38_6242 => ?_) (fun c_38_6242 => ?_)
      · refine lv_iconst (v := 0) hx hb gX12_isIn_4.2.1 (by decide) ?_
        refine toQ hQ0 ?_
        exact RP (v := 0) hC (Or.inr ⟨rfl, fun h9 => absurd h9.1 (fun h9 => Int32.not_le.mpr (hq4 ▸ c_38_6242) h9.1)⟩) (by decide +kernel) gX12_isIn_4.2.2
      · refine lv_aload_n hx hb gX12_isIn_2.2.2.2.1 rfl (lv_at1 hl) ?_
        refine lv_iload_n hx hb gX12_isIn_2.2.2.2.2.1 rfl (lv_at2 hl) ?_
        refine lv_iconst (v := 3) hx hb gX12_isIn_2.2.2.2.2.2.1 (by decide) ?_
        refine pV hC hK hl hP hD (m_paper l G h0 jp 3 nw nk mhasKept nt mtaped nr mrowMany mroundOf mroundFrom (nI jw) nm mfromHour mtoHour ns mfrom mto msort misFault mdeep mcoded mlines nl nc nF np ntr nb mbestCost nso nsi nit nsh nsf nss nrc mtraced mdealer mnumber mwhose msize misParted fnw (hjp) (by omega)) si_X12_88 [0, 1] sm_0_1 fm_0_1 nd_0_1 rfl rfl rfl rfl rfl (Nat.le_of_ble_eq_true rfl) rm_2_1_3 ⟨by first | exact Nat.le_of_ble_eq_true rfl | exact Nat.zero_le _, by first | exact Nat.le_of_ble_eq_true rfl | exact Nat.zero_le _⟩ gX12_isIn_2.2.2.2.2.2.2.1 (Keqr ?_)
        refine lv_aload_n hx hb gX12_isIn_2.2.2.2.2.2.2.2.1 rfl (lv_at1 hl) ?_
        refine gf_X12_9 hC rfl hK hP 0 rfl rfl gX12_isIn_2.2.2.2.2.2.2.2.2.1 ?_
        refine lv_iconst (v := 2) hx hb gX12_isIn_2.2.2.2.2.2.2.2.2.2 (by decide) ?_
        refine ald hC hK hP 1 rfl (vin (by decide +kernel)) (k := 2) (by decide +kernel) (v := fnw 2) (rfl) gX12_isIn_3.1 ?_
        refine lv_icmp_gt (tgt := 75) hx hb gX12_isIn_3.2.1 (by decide) (fun c_53_6245 => ?_) (fun c_53_6245 => ?_)
        · refine lv_iconst (v := 0) hx hb gX12_isIn_4.2.1 (by decide) ?_
          refine toQ hQ0 ?_
          exact RP (v := 0) hC (Or.inr ⟨rfl, fun h9 => absurd h9.1 (fun h9 => Int32.not_le.mpr (hq3 ▸ c_53_6245) h9.2.1)⟩) (by decide +kernel) gX12_isIn_4.2.2
        · refine lv_iload_n hx hb gX12_isIn_3.2.2.1 rfl (lv_at0 hl) ?_
          refine lv_if_ne (tgt := 75) hx hb gX12_isIn_3.2.2.2.1 (by decide) (fun c9 => absurd (by decide) c9) (fun _ => ?_)
          refine lv_aload_n hx hb gX12_isIn_3.2.2.2.2.1 rfl (lv_at1 hl) ?_
          refine gf_X12_96 hC rfl hK hP 0 rfl rfl gX12_isIn_3.2.2.2.2.2.1 ?_
          refine lv_iload_n hx hb gX12_isIn_3.2.2.2.2.2.2.1 rfl (lv_at2 hl) ?_
          refine pS hC hK hl (m_has l G (nI jw) (nI jp)) si_X12_99 rfl rfl (Nat.le_of_ble_eq_true rfl) rm_2_1_2 ⟨by first | exact Nat.le_of_ble_eq_true rfl | exact Nat.zero_le _, by first | exact Nat.le_of_ble_eq_true rfl | exact Nat.zero_le _⟩ gX12_isIn_3.2.2.2.2.2.2.2.1 (Kors (Keqa fun a6247 => ?_) (Keqa fun a6247 => ?_))
          · refine lv_if_ne (tgt := 75) hx hb gX12_isIn_3.2.2.2.2.2.2.2.2.1 (by decide) (fun _ => ?_) (fun c9 => absurd c9 (by decide))
            refine lv_iconst (v := 0) hx hb gX12_isIn_4.2.1 (by decide) ?_
            refine toQ hQ0 ?_
            exact RP (v := 0) hC (Or.inr ⟨rfl, fun h9 => absurd h9.2 (tb_ye (by omega) (by omega) a6247)⟩) (by decide +kernel) gX12_isIn_4.2.2
          · refine lv_if_ne (tgt := 75) hx hb gX12_isIn_3.2.2.2.2.2.2.2.2.1 (by decide) (fun c9 => absurd (by decide) c9) (fun _ => ?_)
            refine lv_iconst (v := 1) hx hb gX12_isIn_3.2.2.2.2.2.2.2.2.2 (by decide) ?_
            refine lv_goto (tgt := 76) hx hb gX12_isIn_4.1 (by decide) ?_
            refine toQ hQ0 ?_
            exact RP (v := 1) hC (Or.inl ⟨rfl, ⟨Int32.not_lt.mp (hq4 ▸ c_38_6242), Int32.not_lt.mp (hq3 ▸ c_53_6245), (fun h9 => Int32.not_le.mpr (hq5 ▸ c_19_6237) h9.2)⟩, tb_no (by omega) (by omega) a6247⟩) (by decide +kernel) gX12_isIn_4.2.2
    · refine lv_iconst (v := 1) hx hb gX12_isIn_1.2.2.1 (by decide) ?_
      refine lv_goto (tgt := 27) hx hb gX12_isIn_1.2.2.2.1 (by decide) ?_
      refine lv_istore_n (lv' := [(2, .int 1), (0, .ref h0), (1, .int (nI jp))]) hx hb gX12_isIn_1.2.2.2.2.2.1 rfl hl (by decide) rfl (fun ls hl => ?_)
      refine lv_aload_n hx hb gX12_isIn_1.2.2.2.2.2.2.1 rfl (lv_at1 hl) ?_
      refine lv_iload_n hx hb gX12_isIn_1.2.2.2.2.2.2.2.1 rfl (lv_at2 hl) ?_
      refine lv_iconst (v := 4) hx hb gX12_isIn_1.2.2.2.2.2.2.2.2.1 (by decide) ?_
      refine pV hC hK hl hP hD (m_paper l G h0 jp 4 nw nk mhasKept nt mtaped nr mrowMany mroundOf mroundFrom (nI jw) nm mfromHour mtoHour ns mfrom mto msort misFault mdeep mcoded mlines nl nc nF np ntr nb mbestCost nso nsi nit nsh nsf nss nrc mtraced mdealer mnumber mwhose msize misParted fnw (hjp) (by omega)) si_X12_88 [0, 1] sm_0_1 fm_0_1 nd_0_1 rfl rfl rfl rfl rfl (Nat.le_of_ble_eq_true rfl) rm_2_1_3 ⟨by first | exact Nat.le_of_ble_eq_true rfl | exact Nat.zero_le _, by first | exact Nat.le_of_ble_eq_true rfl | exact Nat.zero_le _⟩ gX12_isIn_1.2.2.2.2.2.2.2.2.2 (Keqr ?_)
      refine lv_aload_n hx hb gX12_isIn_2.1 rfl (lv_at1 hl) ?_
      refine pV hC hK hl hP hD (m_dayX l G h0 nw nk mhasKept nt mtaped nr mrowMany mroundOf mroundFrom (nI jw) nm mfromHour mtoHour ns mfrom mto msort misFault mdeep mcoded mlines nl nc nF np ntr nb mbestCost nso nsi nit nsh nsf nss nrc mtraced mdealer mnumber mwhose msize misParted fnw) si_X12_92 [0, 1] sm_0_1 fm_0_1 nd_0_1 rfl rfl rfl rfl rfl (Nat.le_of_ble_eq_true rfl) rm_2_1_1 ⟨by first | exact Nat.le_of_ble_eq_true rfl | exact Nat.zero_le _, by first | exact Nat.le_of_ble_eq_true rfl | exact Nat.zero_le _⟩ gX12_isIn_2.2.1 (Keqr ?_)
      refine lv_icmp_gt (tgt := 75) hx hb gX12_isIn_2.2.2.1 (by decide) (fun c_38_6252 => ?_) (fun c_38_6252 => ?_)
      · refine lv_iconst (v := 0) hx hb gX12_isIn_4.2.1 (by decide) ?_
        refine toQ hQ0 ?_
        exact RP (v := 0) hC (Or.inr ⟨rfl, fun h9 => absurd h9.1 (fun h9 => Int32.not_le.mpr (hq4 ▸ c_38_6252) h9.1)⟩) (by decide +kernel) gX12_isIn_4.2.2
      · refine lv_aload_n hx hb gX12_isIn_2.2.2.2.1 rfl (lv_at1 hl) ?_
        refine lv_iload_n hx hb gX12_isIn_2.2.2.2.2.1 rfl (lv_at2 hl) ?_
        refine lv_iconst (v := 3) hx hb gX12_isIn_2.2.2.2.2.2.1 (by decide) ?_
        refine pV hC hK hl hP hD (m_paper l G h0 jp 3 nw nk mhasKept nt mtaped nr mrowMany mroundOf mroundFrom (nI jw) nm mfromHour mtoHour ns mfrom mto msort misFault mdeep mcoded mlines nl nc nF np ntr nb mbestCost nso nsi nit nsh nsf nss nrc mtraced mdealer mnumber mwhose msize misParted fnw (hjp) (by omega)) si_X12_88 [0, 1] sm_0_1 fm_0_1 nd_0_1 rfl rfl rfl rfl rfl (Nat.le_of_ble_eq_true rfl) rm_2_1_3 ⟨by first | exact Nat.le_of_ble_eq_true rfl | exact Nat.zero_le _, by first | exact Nat.le_of_ble_eq_true rfl | exact Nat.zero_le _⟩ gX12_isIn_2.2.2.2.2.2.2.1 (Keqr ?_)
        refine lv_aload_n hx hb gX12_isIn_2.2.2.2.2.2.2.2.1 rfl (lv_at1 hl) ?_
        refine gf_X12_9 hC rfl hK hP 0 rfl rfl gX12_isIn_2.2.2.2.2.2.2.2.2.1 ?_
        refine lv_iconst (v := 2) hx hb gX12_isIn_2.2.2.2.2.2.2.2.2.2 (by decide) ?_
        refine ald hC hK hP 1 rfl (vin (by decide +kernel)) (k := 2) (by decide +kernel) (v := fnw 2) (rfl) gX12_isIn_3.1 ?_
        refine lv_icmp_gt (tgt := 75) hx hb gX12_isIn_3.2.1 (by decide) (fun c_53_6255 => ?_) (fun c_53_6255 => ?_)
        · refine lv_iconst (v := 0) hx hb gX12_isIn_4.2.1 (by decide) ?_
          refine toQ hQ0 ?_
          exact RP (v := 0) hC (Or.inr ⟨rfl, fun h9 => absurd h9.1 (fun h9 => Int32.not_le.mpr (hq3 ▸ c_53_6255) h9.2.1)⟩) (by decide +kernel) gX12_isIn_4.2.2
        · refine lv_iload_n hx hb gX12_isIn_3.2.2.1 rfl (lv_at0 hl) ?_
          refine lv_if_ne (tgt := 75) hx hb gX12_isIn_3.2.2.2.1 (by decide) (fun _ => ?_) (fun c9 => absurd c9 (by decide))
          refine lv_iconst (v := 0) hx hb gX12_isIn_4.2.1 (by decide) ?_
          refine toQ hQ0 ?_
          exact RP (v := 0) hC (Or.inr ⟨rfl, fun h9 => absurd h9.1 (fun h9 => h9.2.2 ⟨Int32.not_lt.mp (hq5 ▸ c_6_6222), Int32.not_lt.mp (hq5 ▸ c_19_6237)⟩)⟩) (by decide +kernel) gX12_isIn_4.2.2
def K_m_findClocksO (l : Launch) (G : GG) (kq : Nat) (k6 : Nat) (h0 : Nat) (nw : Nat) (nk : Nat) (mhasKept : Int32) (nt : Nat) (mtaped : Int32) (nr : Nat) (mrowMany : Int32) (mroundOf : Int32) (mroundFrom : Int32) (jw : Nat) (nm : Nat) (mfromHour : Int32) (mtoHour : Int32) (ns : Nat) (mfrom : Int32) (mto : Int32) (msort : Int32) (misFault : Int32) (mdeep : Int32) (mcoded : Int32) (mlines : Int32) (nl : Nat) (nc : Nat) (nF : Nat) (np : Nat) (ntr : Nat) (nb : Nat) (mbestCost : Int32) (nso : Nat) (nsi : Nat) (nit : Nat) (nsh : Nat) (nsf : Nat) (nss : Nat) (nrc : Nat) (mtraced : Int32) (mdealer : Int32) (mnumber : Int32) (mwhose : Int32) (msize : Int32) (misParted : Int32) (fnw : Nat → Int32) (fnm : Nat → Int32) : Prop := MI l G yX12_findClocks cX12_findClocks 7 (some .boolean) 4 0 0 [.ref h0] [(h0, oX12 nw nk mhasKept nt mtaped nr mrowMany mroundOf mroundFrom (nI jw) nm mfromHour mtoHour ns mfrom mto msort misFault mdeep mcoded mlines nl nc nF np ntr nb mbestCost nso nsi nit nsh nsf nss nrc mtraced mdealer mnumber mwhose msize misParted), (nw, iA G 1662 fnw), (nm, iA G 36 fnm)] (fun (r : Int32) (u : (Nat → Int32)) => ((r = 1 ∧ NOS (KST (shf fnw 104) (VSO fnw kq jw) (fnw 3).toInt k6)) ∨ (r = 0 ∧ CLB (KST (shf fnw 104) (VSO fnw kq jw) (fnw 3).toInt k6) (MAT u))) ∧ (MB u)) (fun u : (Nat → Int32) => [(h0, oX12 nw nk mhasKept nt mtaped nr mrowMany mroundOf mroundFrom (nI jw) nm mfromHour mtoHour ns mfrom mto msort misFault mdeep mcoded mlines nl nc nF np ntr nb mbestCost nso nsi nit nsh nsf nss nrc mtraced mdealer mnumber mwhose msize misParted), (nw, iA G 1662 fnw), (nm, iA G 36 u)])
set_option maxHeartbeats 4000000 in
set_option maxRecDepth 100000 in
theorem m_findClocksO (l : Launch) (G : GG) (kq : Nat) (k6 : Nat) (h0 : Nat) (nw : Nat) (nk : Nat) (mhasKept : Int32) (nt : Nat) (mtaped : Int32) (nr : Nat) (mrowMany : Int32) (mroundOf : Int32) (mroundFrom : Int32) (jw : Nat) (nm : Nat) (mfromHour : Int32) (mtoHour : Int32) (ns : Nat) (mfrom : Int32) (mto : Int32) (msort : Int32) (misFault : Int32) (mdeep : Int32) (mcoded : Int32) (mlines : Int32) (nl : Nat) (nc : Nat) (nF : Nat) (np : Nat) (ntr : Nat) (nb : Nat) (mbestCost : Int32) (nso : Nat) (nsi : Nat) (nit : Nat) (nsh : Nat) (nsf : Nat) (nss : Nat) (nrc : Nat) (mtraced : Int32) (mdealer : Int32) (mnumber : Int32) (mwhose : Int32) (msize : Int32) (misParted : Int32) (fnw : Nat → Int32) (fnm : Nat → Int32) (hN : NI fnw) (hgp : GPRm (fnw 3)) (hjw : jw < 4096) (ekq : fnw 5 = nI kq) (hkq : kq ≤ 12) (e6 : fnw 6 = nI k6) (hk6 : k6 ≤ 24) : K_m_findClocksO l G kq k6 h0 nw nk mhasKept nt mtaped nr mrowMany mroundOf mroundFrom jw nm mfromHour mtoHour ns mfrom mto msort misFault mdeep mcoded mlines nl nc nF np ntr nb mbestCost nso nsi nit nsh nsf nss nrc mtraced mdealer mnumber mwhose msize misParted fnw fnm := by
  refine MI.start (by decide +kernel) (Nat.le_of_ble_eq_true rfl) ?_
  intro p e s m below meth c A ls hC hK hP hD hS hA hl
  refine absQ (fun Q0 hQ0 => ?_)
  have hl : lv_has ls 7 [(0, .ref h0)] := hl
  refine Kan8 hC (fun hx hb hr hml hB hown hlocks hnm => ?_)
  refine lv_iconst (v := 0) hx hb gX12_findClocks_0.1 (by decide) ?_
  refine lv_istore_n (lv' := [(1, .int 0), (0, .ref h0)]) hx hb gX12_findClocks_0.2.1 rfl hl (by decide) rfl (fun ls hl => ?_)
  have keyA : ∀ (nA kA : Nat) (vA : Nat → Int32) (H : Heap) (locs : List Loc) (ls : Array Slot), kA + nA = 6 → (FRP kA 0 (MAT vA)) → va_PD G A [(h0, oX12 nw nk mhasKept nt mtaped nr mrowMany mroundOf mroundFrom (nI jw) nm mfromHour mtoHour ns mfrom mto msort misFault mdeep mcoded mlines nl nc nF np ntr nb mbestCost nso nsi nit nsh nsf nss nrc mtraced mdealer mnumber mwhose msize misParted), (nw, iA G 1662 fnw), (nm, iA G 36 vA)] H → va_S A s.heap H locs → lv_has ls 7 [(1, .int (nI kA)), (0, .ref h0)] → W p l e (RM 4 0 0) s m ([.ref h0] : List Value).toArray below meth c H locs 0 0 Q0 (F0 m 2 ls []) := by
    intro nA
    induction nA with
    | zero =>
      intro kA vA H locs ls hkA hvA hPD hS hl
      refine Kan2 hPD (fun hP hD => ?_)
      obtain rfl : 6 = kA := by omega
      have hl : lv_has ls 7 [(1, .int 6), (0, .ref h0)] := hl
      refine lv_iload_n hx hb gX12_findClocks_0.2.2.1 rfl (lv_at0 hl) ?_
      refine lv_bipush (v := 6) hx hb gX12_findClocks_0.2.2.2.1 (by decide) ?_
      refine lv_icmp_ge (tgt := 63) hx hb gX12_findClocks_0.2.2.2.2.1 (by decide) (fun _ => ?_) (fun c9 => absurd (by decide) c9)
      have hz9 : PHI (KST (shf fnw 104) (VSO fnw kq jw) (fnw 3).toInt k6) (KCV fnw (VSO fnw kq jw) (fnw 3).toInt k6 0 1) (MAT vA) := PHI.base hvA KST.bas
      refine lv_iconst (v := 0) hx hb gX12_findClocks_3.2.2.2.2.1 (by decide) ?_
      refine lv_istore_n (lv' := [(1, .int 0), (0, .ref h0)]) hx hb gX12_findClocks_3.2.2.2.2.2.1 rfl hl (by decide) rfl (fun ls hl => ?_)
      have keyC : ∀ (nC kC : Nat) (vC : Nat → Int32) (H : Heap) (locs : List Loc) (ls : Array Slot), kC + nC = kq → (PHI (KST (shf fnw 104) (VSO fnw kq jw) (fnw 3).toInt k6) (KCV fnw (VSO fnw kq jw) (fnw 3).toInt k6 kC 1) (MAT vC)) → va_PD G A [(h0, oX12 nw nk mhasKept nt mtaped nr mrowMany mroundOf mroundFrom (nI jw) nm mfromHour mtoHour ns mfrom mto msort misFault mdeep mcoded mlines nl nc nF np ntr nb mbestCost nso nsi nit nsh nsf nss nrc mtraced mdealer mnumber mwhose msize misParted), (nw, iA G 1662 fnw), (nm, iA G 36 vC)] H → va_S A s.heap H locs → lv_has ls 7 [(1, .int (nI kC)), (0, .ref h0)] → W p l e (RM 4 0 0) s m ([.ref h0] : List Value).toArray below meth c H locs 0 0 Q0 (F0 m 65 ls []) := by
        intro nC
        induction nC with
        | zero =>
          intro kC vC H locs ls hkC hvC hPD hS hl
          refine Kan2 hPD (fun hP hD => ?_)
          obtain rfl : kq = kC := by omega
          have hl : lv_has ls 7 [(1, .int (nI kq)), (0, .ref h0)] := hl
          refine lv_iload_n hx hb gX12_findClocks_3.2.2.2.2.2.2.1 rfl (lv_at0 hl) ?_
          refine lv_aload_n hx hb gX12_findClocks_3.2.2.2.2.2.2.2.1 rfl (lv_at1 hl) ?_
          refine gf_X12_9 hC rfl hK hP 0 rfl rfl gX12_findClocks_3.2.2.2.2.2.2.2.2.1 ?_
          refine lv_iconst (v := 5) hx hb gX12_findClocks_3.2.2.2.2.2.2.2.2.2 (by decide) ?_
          refine ald hC hK hP 1 rfl (vin (by decide +kernel)) (k := 5) (by decide +kernel) (v := nI kq) (ekq) gX12_findClocks_4.1 ?_
          refine lv_icmp_ge (tgt := 216) hx hb gX12_findClocks_4.2.1 (by decide) (fun _ => ?_) (fun c9 => absurd (Int32.le_refl _) c9)
          have hz9 : FWT (KST (shf fnw 104) (VSO fnw kq jw) (fnw 3).toInt k6) 0 (MAT vC) := FWT.of (hvC.all (fun q9 h9 => h9.1) (fun s9 h9 => NI.pap hN (by omega)))
          refine lv_iconst (v := 0) hx hb gX12_findClocks_13.1 (by decide) ?_
          refine lv_istore_n (lv' := [(1, .int 0), (0, .ref h0)]) hx hb gX12_findClocks_13.2.1 rfl hl (by decide) rfl (fun ls hl => ?_)
          have keyE : ∀ (nE kE : Nat) (vE : Nat → Int32) (H : Heap) (locs : List Loc) (ls : Array Slot), kE + nE = 6 → (FWT (KST (shf fnw 104) (VSO fnw kq jw) (fnw 3).toInt k6) kE (MAT vE)) → va_PD G A [(h0, oX12 nw nk mhasKept nt mtaped nr mrowMany mroundOf mroundFrom (nI jw) nm mfromHour mtoHour ns mfrom mto msort misFault mdeep mcoded mlines nl nc nF np ntr nb mbestCost nso nsi nit nsh nsf nss nrc mtraced mdealer mnumber mwhose msize misParted), (nw, iA G 1662 fnw), (nm, iA G 36 vE)] H → va_S A s.heap H locs → lv_has ls 7 [(1, .int (nI kE)), (0, .ref h0)] → W p l e (RM 4 0 0) s m ([.ref h0] : List Value).toArray below meth c H locs 0 0 Q0 (F0 m 218 ls []) := by
            intro nE
            induction nE with
            | zero =>
              intro kE vE H locs ls hkE hvE hPD hS hl
              refine Kan2 hPD (fun hP hD => ?_)
              obtain rfl : 6 = kE := by omega
              have hl : lv_has ls 7 [(1, .int 6), (0, .ref h0)] := hl
              refine lv_iload_n hx hb gX12_findClocks_13.2.2.1 rfl (lv_at0 hl) ?_
              refine lv_bipush (v := 6) hx hb gX12_findClocks_13.2.2.2.1 (by decide) ?_
              refine lv_icmp_ge (tgt := 287) hx hb gX12_findClocks_13.2.2.2.2.1 (by decide) (fun _ => ?_) (fun c9 => absurd (by decide) c9)
              refine lv_iconst (v := 0) hx hb gX12_findClocks_17.2.2.1 (by decide) ?_
              refine lv_istore_n (lv' := [(1, .int 0), (0, .ref h0)]) hx hb gX12_findClocks_17.2.2.2.1 rfl hl (by decide) rfl (fun ls hl => ?_)
              refine lv_iconst (v := 0) hx hb gX12_findClocks_17.2.2.2.2.1 (by decide) ?_
              refine lv_istore_n (lv' := [(2, .int 0), (1, .int 0), (0, .ref h0)]) hx hb gX12_findClocks_17.2.2.2.2.2.1 rfl hl (by decide) rfl (fun ls hl => ?_)
              have keyH : ∀ (nH kH : Nat) (cl : Int32) (H : Heap) (locs : List Loc) (ls : Array Slot), kH + nH = 6 → (CLD cl kH (MAT vE)) → va_PD G A [(h0, oX12 nw nk mhasKept nt mtaped nr mrowMany mroundOf mroundFrom (nI jw) nm mfromHour mtoHour ns mfrom mto msort misFault mdeep mcoded mlines nl nc nF np ntr nb mbestCost nso nsi nit nsh nsf nss nrc mtraced mdealer mnumber mwhose msize misParted), (nw, iA G 1662 fnw), (nm, iA G 36 vE)] H → va_S A s.heap H locs → lv_has ls 7 [(2, .int (nI kH)), (1, .int cl), (0, .ref h0)] → W p l e (RM 4 0 0) s m ([.ref h0] : List Value).toArray below meth c H locs 0 0 Q0 (F0 m 291 ls []) := by
                intro nH
                induction nH with
                | zero =>
                  intro kH cl H locs ls hkH hcl hPD hS hl
                  refine Kan2 hPD (fun hP hD => ?_)
                  obtain rfl : 6 = kH := by omega
                  have hl : lv_has ls 7 [(2, .int 6), (1, .int cl), (0, .ref h0)] := hl
                  refine lv_iload_n hx hb gX12_findClocks_17.2.2.2.2.2.2.1 rfl (lv_at0 hl) ?_
                  refine lv_bipush (v := 6) hx hb gX12_findClocks_17.2.2.2.2.2.2.2.1 (by decide) ?_
                  refine lv_icmp_ge (tgt := 327) hx hb gX12_findClocks_17.2.2.2.2.2.2.2.2.1 (by decide) (fun _ => ?_) (fun c9 => absurd (by decide) c9)
                  rcases hcl.yes hvE KST.bas with ⟨rfl, hno⟩ | ⟨rfl, hcb⟩
                  · refine lv_iload_n hx hb gX12_findClocks_19.2.2.2.2.2.2.1 rfl (lv_at1 hl) ?_
                    refine toQ hQ0 ?_
                    exact RI (v := 1) hC hP hD hS [0, 1, 2] vE rfl rfl (by decide) (⟨Or.inl ⟨rfl, hno⟩, hvE.mb⟩) (by decide +kernel) gX12_findClocks_19.2.2.2.2.2.2.2
                  · refine lv_iload_n hx hb gX12_findClocks_19.2.2.2.2.2.2.1 rfl (lv_at1 hl) ?_
                    refine toQ hQ0 ?_
                    exact RI (v := 0) hC hP hD hS [0, 1, 2] vE rfl rfl (by decide) (⟨Or.inr ⟨rfl, hcb⟩, hvE.mb⟩) (by decide +kernel) gX12_findClocks_19.2.2.2.2.2.2.2
                | succ nH ihH =>
                  intro kH cl H locs ls hkH hcl hPD hS hl
                  refine Kan2 hPD (fun hP hD => ?_)
                  refine lv_iload_n hx hb gX12_findClocks_17.2.2.2.2.2.2.1 rfl (lv_at0 hl) ?_
                  refine lv_bipush (v := 6) hx hb gX12_findClocks_17.2.2.2.2.2.2.2.1 (by decide) ?_
                  refine lv_icmp_ge (tgt := 327) hx hb gX12_findClocks_17.2.2.2.2.2.2.2.2.1 (by decide) (fun c9 => absurd c9 (nI_ge (a := kH) (b := 6) (by omega) (by omega))) (fun _ => ?_)
                  refine lv_iload_n hx hb gX12_findClocks_17.2.2.2.2.2.2.2.2.2 rfl (lv_at1 hl) ?_
                  refine lv_if_ne (tgt := 315) hx hb gX12_findClocks_18.1 (by decide) (fun c_298_6256 => ?_) (fun c_298_6256 => ?_)
                  · refine lv_iconst (v := 1) hx hb gX12_findClocks_19.1 (by decide) ?_
                    refine lv_goto (tgt := 320) hx hb gX12_findClocks_19.2.1 (by decide) ?_
                    refine lv_istore_n (lv' := [(1, .int 1), (2, .int (nI kH)), (0, .ref h0)]) hx hb gX12_findClocks_19.2.2.2.1 rfl hl (by decide) rfl (fun ls hl => ?_)
                    refine lv_iinc (v := nI (kH + 1)) (lv' := [(2, .int (nI (kH + 1))), (1, .int 1), (0, .ref h0)]) hx hb gX12_findClocks_19.2.2.2.2.1 hl (k := 1) rfl (nI_1 _) (by decide) rfl (fun ls hl => ?_)
                    refine lv_goto (tgt := 291) hx hb gX12_findClocks_19.2.2.2.2.2.1 (by decide) ?_
                    have hst9 : CLD 1 (kH + 1) (MAT vE) := CLD.old hcl c_298_6256
                    exact ihH (kH + 1) 1 _ _ _ (by omega) (by first | assumption | exact Or.inl rfl | exact Or.inr rfl | exact CLD.zero) (And.intro hP hD) hS (lv_sub hl [0, 1, 2] rfl)
                  · refine lv_aload_n hx hb gX12_findClocks_18.2.1 rfl (lv_at2 hl) ?_
                    refine gf_X12_26 hC rfl hK hP 0 rfl rfl gX12_findClocks_18.2.2.1 ?_
                    refine lv_bipush (v := 6) hx hb gX12_findClocks_18.2.2.2.1 (by decide) ?_
                    refine lv_iload_n hx hb gX12_findClocks_18.2.2.2.2.1 rfl (lv_at0 hl) ?_
                    refine lv_imul hx hb gX12_findClocks_18.2.2.2.2.2.1 ?_
                    refine eqi (x1 := nI (6 * kH)) (nI_mul 6 kH) ?_
                    refine lv_iload_n hx hb gX12_findClocks_18.2.2.2.2.2.2.1 rfl (lv_at0 hl) ?_
                    refine lv_iadd hx hb gX12_findClocks_18.2.2.2.2.2.2.2.1 ?_
                    refine eqi (x1 := nI (6 * kH + kH)) (nI_add (6 * kH) kH) ?_
                    refine aldN hC hK hP 2 rfl (k := (6 * kH + kH)) (by omega) (Nat.le_of_ble_eq_true rfl) (v := vE (6 * kH + kH)) rfl gX12_findClocks_18.2.2.2.2.2.2.2.2.1 ?_
                    refine lv_if_ge (tgt := 319) hx hb gX12_findClocks_18.2.2.2.2.2.2.2.2.2 (by decide) (fun c_312_6257 => ?_) (fun c_312_6257 => ?_)
                    · refine lv_iconst (v := 0) hx hb gX12_findClocks_19.2.2.1 (by decide) ?_
                      refine lv_istore_n (lv' := [(1, .int 0), (2, .int (nI kH)), (0, .ref h0)]) hx hb gX12_findClocks_19.2.2.2.1 rfl hl (by decide) rfl (fun ls hl => ?_)
                      refine lv_iinc (v := nI (kH + 1)) (lv' := [(2, .int (nI (kH + 1))), (1, .int 0), (0, .ref h0)]) hx hb gX12_findClocks_19.2.2.2.2.1 hl (k := 1) rfl (nI_1 _) (by decide) rfl (fun ls hl => ?_)
                      refine lv_goto (tgt := 291) hx hb gX12_findClocks_19.2.2.2.2.2.1 (by decide) ?_
                      have hst9 : CLD 0 (kH + 1) (MAT vE) := hcl.hi c_298_6256 (mat_s.mp c_312_6257)
                      exact ihH (kH + 1) 0 _ _ _ (by omega) (by first | assumption | exact Or.inl rfl | exact Or.inr rfl | exact CLD.zero) (And.intro hP hD) hS (lv_sub hl [0, 1, 2] rfl)
                    · refine lv_iconst (v := 1) hx hb gX12_findClocks_19.1 (by decide) ?_
                      refine lv_goto (tgt := 320) hx hb gX12_findClocks_19.2.1 (by decide) ?_
                      refine lv_istore_n (lv' := [(1, .int 1), (2, .int (nI kH)), (0, .ref h0)]) hx hb gX12_findClocks_19.2.2.2.1 rfl hl (by decide) rfl (fun ls hl => ?_)
                      refine lv_iinc (v := nI (kH + 1)) (lv' := [(2, .int (nI (kH + 1))), (1, .int 1), (0, .ref h0)]) hx hb gX12_findClocks_19.2.2.2.2.1 hl (k := 1) rfl (nI_1 _) (by decide) rfl (fun ls hl => ?_)
                      refine lv_goto (tgt := 291) hx hb gX12_findClocks_19.2.2.2.2.2.1 (by decide) ?_
                      have hst9 : CLD 1 (kH + 1) (MAT vE) := CLD.lo (by omega) (Int.not_le.mp (fun h9 => c_312_6257 (mat_s.mpr h9)))
                      exact ihH (kH + 1) 1 _ _ _ (by omega) (by first | assumption | exact Or.inl rfl | exact Or.inr rfl | exact CLD.zero) (And.intro hP hD) hS (lv_sub hl [0, 1, 2] rfl)
              exact keyH 6 0 0 _ _ _ (by omega) (by first | assumption | exact Or.inl rfl | exact Or.inr rfl | exact CLD.zero) (And.intro hP hD) hS (lv_sub hl [0, 1, 2] rfl)
            | succ nE ihE =>
              intro kE vE H locs ls hkE hvE hPD hS hl
              refine Kan2 hPD (fun hP hD => ?_)
              refine lv_iload_n hx hb gX12_findClocks_13.2.2.1 rfl (lv_at0 hl) ?_
              refine lv_bipush (v := 6) hx hb gX12_findClocks_13.2.2.2.1 (by decide) ?_
              refine lv_icmp_ge (tgt := 287) hx hb gX12_findClocks_13.2.2.2.2.1 (by decide) (fun c9 => absurd c9 (nI_ge (a := kE) (b := 6) (by omega) (by omega))) (fun _ => ?_)
              refine lv_iconst (v := 0) hx hb gX12_findClocks_13.2.2.2.2.2.1 (by decide) ?_
              refine lv_istore_n (lv' := [(2, .int 0), (1, .int (nI kE)), (0, .ref h0)]) hx hb gX12_findClocks_13.2.2.2.2.2.2.1 rfl hl (by decide) rfl (fun ls hl => ?_)
              have keyY : ∀ (nY kY : Nat) (vY : Nat → Int32) (H : Heap) (locs : List Loc) (ls : Array Slot), kY + nY = 6 → (FWS (KST (shf fnw 104) (VSO fnw kq jw) (fnw 3).toInt k6) kE kY 0 (MAT vE) (MAT vY)) → va_PD G A [(h0, oX12 nw nk mhasKept nt mtaped nr mrowMany mroundOf mroundFrom (nI jw) nm mfromHour mtoHour ns mfrom mto msort misFault mdeep mcoded mlines nl nc nF np ntr nb mbestCost nso nsi nit nsh nsf nss nrc mtraced mdealer mnumber mwhose msize misParted), (nw, iA G 1662 fnw), (nm, iA G 36 vY)] H → va_S A s.heap H locs → lv_has ls 7 [(2, .int (nI kY)), (1, .int (nI kE)), (0, .ref h0)] → W p l e (RM 4 0 0) s m ([.ref h0] : List Value).toArray below meth c H locs 0 0 Q0 (F0 m 226 ls []) := by
                intro nY
                induction nY with
                | zero =>
                  intro kY vY H locs ls hkY hvY hPD hS hl
                  refine Kan2 hPD (fun hP hD => ?_)
                  obtain rfl : 6 = kY := by omega
                  have hl : lv_has ls 7 [(2, .int 6), (1, .int (nI kE)), (0, .ref h0)] := hl
                  refine lv_iload_n hx hb gX12_findClocks_13.2.2.2.2.2.2.2.1 rfl (lv_at0 hl) ?_
                  refine lv_bipush (v := 6) hx hb gX12_findClocks_13.2.2.2.2.2.2.2.2.1 (by decide) ?_
                  refine lv_icmp_ge (tgt := 281) hx hb gX12_findClocks_13.2.2.2.2.2.2.2.2.2 (by decide) (fun _ => ?_) (fun c9 => absurd (by decide) c9)
                  refine lv_iinc (v := nI (kE + 1)) (lv' := [(1, .int (nI (kE + 1))), (2, .int 6), (0, .ref h0)]) hx hb gX12_findClocks_17.1 hl (k := 1) rfl (nI_1 _) (by decide) rfl (fun ls hl => ?_)
                  refine lv_goto (tgt := 218) hx hb gX12_findClocks_17.2.1 (by decide) ?_
                  have hst9 : FWT (KST (shf fnw 104) (VSO fnw kq jw) (fnw 3).toInt k6) (kE + 1) (MAT vY) := hvY.fin (by omega)
                  exact ihE (kE + 1) vY _ _ _ (by omega) (by first | assumption | exact Or.inl rfl | exact Or.inr rfl) (And.intro hP hD) hS (lv_sub hl [0, 2] rfl)
                | succ nY ihY =>
                  intro kY vY H locs ls hkY hvY hPD hS hl
                  refine Kan2 hPD (fun hP hD => ?_)
                  refine lv_iload_n hx hb gX12_findClocks_13.2.2.2.2.2.2.2.1 rfl (lv_at0 hl) ?_
                  refine lv_bipush (v := 6) hx hb gX12_findClocks_13.2.2.2.2.2.2.2.2.1 (by decide) ?_
                  refine lv_icmp_ge (tgt := 281) hx hb gX12_findClocks_13.2.2.2.2.2.2.2.2.2 (by decide) (fun c9 => absurd c9 (nI_ge (a := kY) (b := 6) (by omega) (by omega))) (fun _ => ?_)
                  refine lv_iconst (v := 0) hx hb gX12_findClocks_14.1 (by decide) ?_
                  refine lv_istore_n (lv' := [(3, .int 0), (2, .int (nI kY)), (1, .int (nI kE)), (0, .ref h0)]) hx hb gX12_findClocks_14.2.1 rfl hl (by decide) rfl (fun ls hl => ?_)
                  have keyG : ∀ (nG kG : Nat) (vG : Nat → Int32) (H : Heap) (locs : List Loc) (ls : Array Slot), kG + nG = 6 → (FWS (KST (shf fnw 104) (VSO fnw kq jw) (fnw 3).toInt k6) kE kY kG (MAT vE) (MAT vG)) → va_PD G A [(h0, oX12 nw nk mhasKept nt mtaped nr mrowMany mroundOf mroundFrom (nI jw) nm mfromHour mtoHour ns mfrom mto msort misFault mdeep mcoded mlines nl nc nF np ntr nb mbestCost nso nsi nit nsh nsf nss nrc mtraced mdealer mnumber mwhose msize misParted), (nw, iA G 1662 fnw), (nm, iA G 36 vG)] H → va_S A s.heap H locs → lv_has ls 7 [(3, .int (nI kG)), (2, .int (nI kY)), (1, .int (nI kE)), (0, .ref h0)] → W p l e (RM 4 0 0) s m ([.ref h0] : List Value).toArray below meth c H locs 0 0 Q0 (F0 m 234 ls []) := by
                    intro nG
                    induction nG with
                    | zero =>
                      intro kG vG H locs ls hkG hvG hPD hS hl
                      refine Kan2 hPD (fun hP hD => ?_)
                      obtain rfl : 6 = kG := by omega
                      have hl : lv_has ls 7 [(3, .int 6), (2, .int (nI kY)), (1, .int (nI kE)), (0, .ref h0)] := hl
                      refine lv_iload_n hx hb gX12_findClocks_14.2.2.1 rfl (lv_at0 hl) ?_
                      refine lv_bipush (v := 6) hx hb gX12_findClocks_14.2.2.2.1 (by decide) ?_
                      refine lv_icmp_ge (tgt := 275) hx hb gX12_findClocks_14.2.2.2.2.1 (by decide) (fun _ => ?_) (fun c9 => absurd (by decide) c9)
                      refine lv_iinc (v := nI (kY + 1)) (lv' := [(2, .int (nI (kY + 1))), (3, .int 6), (1, .int (nI kE)), (0, .ref h0)]) hx hb gX12_findClocks_16.2.2.2.2.2.2.2.2.1 hl (k := 1) rfl (nI_1 _) (by decide) rfl (fun ls hl => ?_)
                      refine lv_goto (tgt := 226) hx hb gX12_findClocks_16.2.2.2.2.2.2.2.2.2 (by decide) ?_
                      have hst9 : FWS (KST (shf fnw 104) (VSO fnw kq jw) (fnw 3).toInt k6) kE (kY + 1) 0 (MAT vE) (MAT vG) := hvG.row
                      exact ihY (kY + 1) vG _ _ _ (by omega) (by first | assumption | exact Or.inl rfl | exact Or.inr rfl | exact hvE.to) (And.intro hP hD) hS (lv_sub hl [0, 2, 3] rfl)
                    | succ nG ihG =>
                      intro kG vG H locs ls hkG hvG hPD hS hl
                      refine Kan2 hPD (fun hP hD => ?_)
                      refine lv_iload_n hx hb gX12_findClocks_14.2.2.1 rfl (lv_at0 hl) ?_
                      refine lv_bipush (v := 6) hx hb gX12_findClocks_14.2.2.2.1 (by decide) ?_
                      refine lv_icmp_ge (tgt := 275) hx hb gX12_findClocks_14.2.2.2.2.1 (by decide) (fun c9 => absurd c9 (nI_ge (a := kG) (b := 6) (by omega) (by omega))) (fun _ => ?_)
                      refine lv_aload_n hx hb gX12_findClocks_14.2.2.2.2.2.1 rfl (lv_at3 hl) ?_
                      refine lv_iload_n hx hb gX12_findClocks_14.2.2.2.2.2.2.1 rfl (lv_at1 hl) ?_
                      refine lv_iload_n hx hb gX12_findClocks_14.2.2.2.2.2.2.2.1 rfl (lv_at0 hl) ?_
                      refine lv_aload_n hx hb gX12_findClocks_14.2.2.2.2.2.2.2.2.1 rfl (lv_at3 hl) ?_
                      refine gf_X12_26 hC rfl hK hP 0 rfl rfl gX12_findClocks_14.2.2.2.2.2.2.2.2.2 ?_
                      refine lv_bipush (v := 6) hx hb gX12_findClocks_15.1 (by decide) ?_
                      refine lv_iload_n hx hb gX12_findClocks_15.2.1 rfl (lv_at1 hl) ?_
                      refine lv_imul hx hb gX12_findClocks_15.2.2.1 ?_
                      refine eqi (x1 := nI (6 * kY)) (nI_mul 6 kY) ?_
                      refine lv_iload_n hx hb gX12_findClocks_15.2.2.2.1 rfl (lv_at2 hl) ?_
                      refine lv_iadd hx hb gX12_findClocks_15.2.2.2.2.1 ?_
                      refine eqi (x1 := nI (6 * kY + kE)) (nI_add (6 * kY) kE) ?_
                      refine aldN hC hK hP 2 rfl (k := (6 * kY + kE)) (by omega) (Nat.le_of_ble_eq_true rfl) (v := vG (6 * kY + kE)) rfl gX12_findClocks_15.2.2.2.2.2.1 ?_
                      refine lv_aload_n hx hb gX12_findClocks_15.2.2.2.2.2.2.1 rfl (lv_at3 hl) ?_
                      refine gf_X12_26 hC rfl hK hP 0 rfl rfl gX12_findClocks_15.2.2.2.2.2.2.2.1 ?_
                      refine lv_bipush (v := 6) hx hb gX12_findClocks_15.2.2.2.2.2.2.2.2.1 (by decide) ?_
                      refine lv_iload_n hx hb gX12_findClocks_15.2.2.2.2.2.2.2.2.2 rfl (lv_at2 hl) ?_
                      refine lv_imul hx hb gX12_findClocks_16.1 ?_
                      refine eqi (x1 := nI (6 * kE)) (nI_mul 6 kE) ?_
                      refine lv_iload_n hx hb gX12_findClocks_16.2.1 rfl (lv_at0 hl) ?_
                      refine lv_iadd hx hb gX12_findClocks_16.2.2.1 ?_
                      refine eqi (x1 := nI (6 * kE + kG)) (nI_add (6 * kE) kG) ?_
                      refine aldN hC hK hP 2 rfl (k := (6 * kE + kG)) (by omega) (Nat.le_of_ble_eq_true rfl) (v := vG (6 * kE + kG)) rfl gX12_findClocks_16.2.2.2.1 ?_
                      refine lv_iadd hx hb gX12_findClocks_16.2.2.2.2.1 ?_
                      refine vV (wr := [(nw, iA G 1662 fnw)]) hC hK hl hP hD hS hA (m_atMostX l G h0 kY kG ((vG (6 * kY + kE)) + (vG (6 * kE + kG))) nw nk mhasKept nt mtaped nr mrowMany mroundOf mroundFrom (nI jw) nm mfromHour mtoHour ns mfrom mto msort misFault mdeep mcoded mlines nl nc nF np ntr nb mbestCost nso nsi nit nsh nsf nss nrc mtraced mdealer mnumber mwhose msize misParted vG (by omega) (by omega)) si_X12_145 [0, 2] [1] sm_0_2 fm_0_2 nd_0_2 sm_1 nd_1 dj_0_2__1 rfl rfl rfl rfl rfl (Nat.le_of_ble_eq_true rfl) rm_4_2_4 ⟨Nat.le_of_ble_eq_true rfl, Nat.le_of_ble_eq_true rfl⟩ gX12_findClocks_16.2.2.2.2.2.1 (fun gnm6260 H locs hr6258 hP hD hS => ?_)
                      try dsimp only at hr6258
                      refine Kpdr (ws := [(nw, iA G 1662 fnw), (h0, oX12 nw nk mhasKept nt mtaped nr mrowMany mroundOf mroundFrom (nI jw) nm mfromHour mtoHour ns mfrom mto msort misFault mdeep mcoded mlines nl nc nF np ntr nb mbestCost nso nsi nit nsh nsf nss nrc mtraced mdealer mnumber mwhose msize misParted), (nm, iA G 36 gnm6260)]) hP hD (fun hP hD => ?_)
                      have w6261 := hr6258
                      refine lv_iinc (v := nI (kG + 1)) (lv' := [(3, .int (nI (kG + 1))), (2, .int (nI kY)), (1, .int (nI kE)), (0, .ref h0)]) hx hb gX12_findClocks_16.2.2.2.2.2.2.1 hl (k := 0) rfl (nI_1 _) (by decide) rfl (fun ls hl => ?_)
                      refine lv_goto (tgt := 234) hx hb gX12_findClocks_16.2.2.2.2.2.2.2.1 (by decide) ?_
                      refine Kpds (ws' := [(h0, oX12 nw nk mhasKept nt mtaped nr mrowMany mroundOf mroundFrom (nI jw) nm mfromHour mtoHour ns mfrom mto msort misFault mdeep mcoded mlines nl nc nF np ntr nb mbestCost nso nsi nit nsh nsf nss nrc mtraced mdealer mnumber mwhose msize misParted), (nw, iA G 1662 fnw), (nm, iA G 36 gnm6260)]) hP hD [1, 0, 2] fm_1_0_2 nd_1_0_2 sm_1_0_2 (fun hP hD => ?_)
                      have hst9 : FWS (KST (shf fnw 104) (VSO fnw kq jw) (fnw 3).toInt k6) kE kY (kG + 1) (MAT vE) (MAT gnm6260) := hvG.put (by omega) (by omega) (by omega) (fun x9 y9 hx9 hy9 => by rw [← hvG.sum (by omega) (by omega) (by omega)]; exact w6261 x9 y9 hx9 hy9)
                      exact ihG (kG + 1) gnm6260 _ _ _ (by omega) (by first | assumption | exact Or.inl rfl | exact Or.inr rfl) (And.intro hP hD) hS (lv_sub hl [0, 1, 2, 3] rfl)
                  exact keyG 6 0 vY _ _ _ (by omega) (by first | assumption | exact Or.inl rfl | exact Or.inr rfl) (And.intro hP hD) hS (lv_sub hl [0, 1, 2, 3] rfl)
              exact keyY 6 0 vE _ _ _ (by omega) (by first | assumption | exact Or.inl rfl | exact Or.inr rfl | exact hvE.to) (And.intro hP hD) hS (lv_sub hl [0, 1, 2] rfl)
          exact keyE 6 0 vC _ _ _ (by omega) (by first | assumption | exact Or.inl rfl | exact Or.inr rfl) (And.intro hP hD) hS (lv_sub hl [0, 1] rfl)
        | succ nC ihC =>
          intro kC vC H locs ls hkC hvC hPD hS hl
          refine Kan2 hPD (fun hP hD => ?_)
          refine lv_iload_n hx hb gX12_findClocks_3.2.2.2.2.2.2.1 rfl (lv_at0 hl) ?_
          refine lv_aload_n hx hb gX12_findClocks_3.2.2.2.2.2.2.2.1 rfl (lv_at1 hl) ?_
          refine gf_X12_9 hC rfl hK hP 0 rfl rfl gX12_findClocks_3.2.2.2.2.2.2.2.2.1 ?_
          refine lv_iconst (v := 5) hx hb gX12_findClocks_3.2.2.2.2.2.2.2.2.2 (by decide) ?_
          refine ald hC hK hP 1 rfl (vin (by decide +kernel)) (k := 5) (by decide +kernel) (v := nI kq) (ekq) gX12_findClocks_4.1 ?_
          refine lv_icmp_ge (tgt := 216) hx hb gX12_findClocks_4.2.1 (by decide) (fun c9 => absurd c9 (nI_ge (a := kC) (b := kq) (by omega) (by omega))) (fun _ => ?_)
          refine lv_aload_n hx hb gX12_findClocks_4.2.2.1 rfl (lv_at1 hl) ?_
          refine lv_iload_n hx hb gX12_findClocks_4.2.2.2.1 rfl (lv_at0 hl) ?_
          refine pV hC hK hl hP hD (m_isInO l G h0 kC nw nk mhasKept nt mtaped nr mrowMany mroundOf mroundFrom jw nm mfromHour mtoHour ns mfrom mto msort misFault mdeep mcoded mlines nl nc nF np ntr nb mbestCost nso nsi nit nsh nsf nss nrc mtraced mdealer mnumber mwhose msize misParted fnw (by omega) (hjw)) si_X12_103 [0, 1] sm_0_1 fm_0_1 nd_0_1 rfl rfl rfl rfl rfl (Nat.le_of_ble_eq_true rfl) rm_4_2_3 ⟨by first | exact Nat.le_of_ble_eq_true rfl | exact Nat.zero_le _, by first | exact Nat.le_of_ble_eq_true rfl | exact Nat.zero_le _⟩ gX12_findClocks_4.2.2.2.2.1 (Kors (Keqa fun a6263 => ?_) (Keqa fun a6263 => ?_))
          · refine lv_if_eq (tgt := 91) hx hb gX12_findClocks_4.2.2.2.2.2.1 (by decide) (fun c9 => absurd c9 (by decide)) (fun _ => ?_)
            refine lv_aload_n hx hb gX12_findClocks_4.2.2.2.2.2.2.1 rfl (lv_at1 hl) ?_
            refine lv_iload_n hx hb gX12_findClocks_4.2.2.2.2.2.2.2.1 rfl (lv_at0 hl) ?_
            refine pV hC hK hl hP hD (m_stampsOf l G k6 h0 (nI kC) nw nk mhasKept nt mtaped nr mrowMany mroundOf mroundFrom (nI jw) nm mfromHour mtoHour ns mfrom mto msort misFault mdeep mcoded mlines nl nc nF np ntr nb mbestCost nso nsi nit nsh nsf nss nrc mtraced mdealer mnumber mwhose msize misParted fnw (e6) (hk6)) si_X12_130 [0, 1] sm_0_1 fm_0_1 nd_0_1 rfl rfl rfl rfl rfl (Nat.le_of_ble_eq_true rfl) rm_4_2_4 ⟨by first | exact Nat.le_of_ble_eq_true rfl | exact Nat.zero_le _, by first | exact Nat.le_of_ble_eq_true rfl | exact Nat.zero_le _⟩ gX12_findClocks_4.2.2.2.2.2.2.2.2.1 (Keqr ?_)
            refine lv_goto (tgt := 92) hx hb gX12_findClocks_4.2.2.2.2.2.2.2.2.2 (by decide) ?_
            refine lv_istore_n (lv' := [(2, .int (nI (cntS fnw (nI kC) k6))), (1, .int (nI kC)), (0, .ref h0)]) hx hb gX12_findClocks_5.2.1 rfl hl (by decide) rfl (fun ls hl => ?_)
            refine lv_iconst (v := 1) hx hb gX12_findClocks_5.2.2.1 (by decide) ?_
            refine lv_istore_n (lv' := [(3, .int 1), (2, .int (nI (cntS fnw (nI kC) k6))), (1, .int (nI kC)), (0, .ref h0)]) hx hb gX12_findClocks_5.2.2.2.1 rfl hl (by decide) rfl (fun ls hl => ?_)
            have hcl9 := cntS_le fnw (nI kC) k6
            rcases Nat.eq_zero_or_pos (cntS fnw (nI kC) k6) with hz9 | hz9
            · refine lv_iload_n hx hb gX12_findClocks_5.2.2.2.2.1 rfl (lv_at0 hl) ?_
              refine lv_iload_n hx hb gX12_findClocks_5.2.2.2.2.2.1 rfl (lv_at1 hl) ?_
              refine lv_icmp_ge (tgt := 210) hx hb gX12_findClocks_5.2.2.2.2.2.2.1 (by decide) (fun _ => ?_) (fun c9 => absurd ((by rw [hz9]; decide)) c9)
              refine lv_iinc (v := nI (kC + 1)) (lv' := [(1, .int (nI (kC + 1))), (3, .int 1), (2, .int (nI (cntS fnw (nI kC) k6))), (0, .ref h0)]) hx hb gX12_findClocks_12.2.2.2.2.2.2.2.2.1 hl (k := 2) rfl (nI_1 _) (by decide) rfl (fun ls hl => ?_)
              refine lv_goto (tgt := 65) hx hb gX12_findClocks_12.2.2.2.2.2.2.2.2.2 (by decide) ?_
              have hst9 : PHI (KST (shf fnw 104) (VSO fnw kq jw) (fnw 3).toInt k6) (KCV fnw (VSO fnw kq jw) (fnw 3).toInt k6 (kC + 1) 1) (MAT vC) := hvC.paper (fun _ => by omega)
              exact ihC (kC + 1) vC _ _ _ (by omega) (by first | assumption | exact Or.inl rfl | exact Or.inr rfl) (And.intro hP hD) hS (lv_sub hl [0, 3] rfl)
            · have keyD : ∀ (nD kD : Nat) (vD : Nat → Int32) (H : Heap) (locs : List Loc) (ls : Array Slot), kD + nD = (cntS fnw (nI kC) k6) → (1 ≤ kD) → (PHI (KST (shf fnw 104) (VSO fnw kq jw) (fnw 3).toInt k6) (KCV fnw (VSO fnw kq jw) (fnw 3).toInt k6 kC kD) (MAT vD)) → va_PD G A [(h0, oX12 nw nk mhasKept nt mtaped nr mrowMany mroundOf mroundFrom (nI jw) nm mfromHour mtoHour ns mfrom mto msort misFault mdeep mcoded mlines nl nc nF np ntr nb mbestCost nso nsi nit nsh nsf nss nrc mtraced mdealer mnumber mwhose msize misParted), (nw, iA G 1662 fnw), (nm, iA G 36 vD)] H → va_S A s.heap H locs → lv_has ls 7 [(3, .int (nI kD)), (2, .int (nI (cntS fnw (nI kC) k6))), (1, .int (nI kC)), (0, .ref h0)] → W p l e (RM 4 0 0) s m ([.ref h0] : List Value).toArray below meth c H locs 0 0 Q0 (F0 m 95 ls []) := by
                intro nD
                induction nD with
                | zero =>
                  intro kD vD H locs ls hkD hk1 hvD hPD hS hl
                  refine Kan2 hPD (fun hP hD => ?_)
                  obtain rfl : (cntS fnw (nI kC) k6) = kD := by omega
                  have hl : lv_has ls 7 [(3, .int (nI (cntS fnw (nI kC) k6))), (2, .int (nI (cntS fnw (nI kC) k6))), (1, .int (nI kC)), (0, .ref h0)] := hl
                  refine lv_iload_n hx hb gX12_findClocks_5.2.2.2.2.1 rfl (lv_at0 hl) ?_
                  refine lv_iload_n hx hb gX12_findClocks_5.2.2.2.2.2.1 rfl (lv_at1 hl) ?_
                  refine lv_icmp_ge (tgt := 210) hx hb gX12_findClocks_5.2.2.2.2.2.2.1 (by decide) (fun _ => ?_) (fun c9 => absurd (Int32.le_refl _) c9)
                  refine lv_iinc (v := nI (kC + 1)) (lv' := [(1, .int (nI (kC + 1))), (3, .int (nI (cntS fnw (nI kC) k6))), (2, .int (nI (cntS fnw (nI kC) k6))), (0, .ref h0)]) hx hb gX12_findClocks_12.2.2.2.2.2.2.2.2.1 hl (k := 2) rfl (nI_1 _) (by decide) rfl (fun ls hl => ?_)
                  refine lv_goto (tgt := 65) hx hb gX12_findClocks_12.2.2.2.2.2.2.2.2.2 (by decide) ?_
                  have hst9 : PHI (KST (shf fnw 104) (VSO fnw kq jw) (fnw 3).toInt k6) (KCV fnw (VSO fnw kq jw) (fnw 3).toInt k6 (kC + 1) 1) (MAT vD) := hvD.paper (fun _ => Nat.le_refl _)
                  exact ihC (kC + 1) vD _ _ _ (by omega) (by first | assumption | exact Or.inl rfl | exact Or.inr rfl) (And.intro hP hD) hS (lv_sub hl [0, 3] rfl)
                | succ nD ihD =>
                  intro kD vD H locs ls hkD hk1 hvD hPD hS hl
                  refine Kan2 hPD (fun hP hD => ?_)
                  refine lv_iload_n hx hb gX12_findClocks_5.2.2.2.2.1 rfl (lv_at0 hl) ?_
                  refine lv_iload_n hx hb gX12_findClocks_5.2.2.2.2.2.1 rfl (lv_at1 hl) ?_
                  refine lv_icmp_ge (tgt := 210) hx hb gX12_findClocks_5.2.2.2.2.2.2.1 (by decide) (fun c9 => absurd c9 (nI_ge (a := kD) (b := (cntS fnw (nI kC) k6)) (by omega) (by omega))) (fun _ => ?_)
                  refine lv_bipush (v := 104) hx hb gX12_findClocks_5.2.2.2.2.2.2.2.1 (by decide) ?_
                  refine lv_iconst (v := 3) hx hb gX12_findClocks_5.2.2.2.2.2.2.2.2.1 (by decide) ?_
                  refine lv_aload_n hx hb gX12_findClocks_5.2.2.2.2.2.2.2.2.2 rfl (lv_at3 hl) ?_
                  refine lv_iload_n hx hb gX12_findClocks_6.1 rfl (lv_at2 hl) ?_
                  refine lv_iload_n hx hb gX12_findClocks_6.2.1 rfl (lv_at0 hl) ?_
                  refine lv_iconst (v := 1) hx hb gX12_findClocks_6.2.2.1 (by decide) ?_
                  refine lv_isub hx hb gX12_findClocks_6.2.2.2.1 ?_
                  refine eqi (x1 := nI (kD - 1)) (nI_sb (by omega)) ?_
                  refine pV hC hK hl hP hD (m_stampAtX l G k6 h0 kC (kD - 1) nw nk mhasKept nt mtaped nr mrowMany mroundOf mroundFrom (nI jw) nm mfromHour mtoHour ns mfrom mto msort misFault mdeep mcoded mlines nl nc nF np ntr nb mbestCost nso nsi nit nsh nsf nss nrc mtraced mdealer mnumber mwhose msize misParted fnw (e6) (hk6) (by omega)) si_X12_142 [0, 1] sm_0_1 fm_0_1 nd_0_1 rfl rfl rfl rfl rfl (Nat.le_of_ble_eq_true rfl) rm_4_2_5 ⟨by first | exact Nat.le_of_ble_eq_true rfl | exact Nat.zero_le _, by first | exact Nat.le_of_ble_eq_true rfl | exact Nat.zero_le _⟩ gX12_findClocks_6.2.2.2.2.1 (fun r6266 hr6266 => ?_)
                  obtain ⟨s9_6267, hpx6267, rfl⟩ := hr6266
                  try dsimp only at hpx6267
                  refine lv_imul hx hb gX12_findClocks_6.2.2.2.2.2.1 ?_
                  refine eqi (x1 := nI (3 * s9_6267)) (nI_mul 3 s9_6267) ?_
                  refine lv_iadd hx hb gX12_findClocks_6.2.2.2.2.2.2.1 ?_
                  refine eqi (x1 := nI (104 + 3 * s9_6267)) (nI_add 104 (3 * s9_6267)) ?_
                  refine lv_istore (lv' := [(4, .int (nI (104 + 3 * s9_6267))), (3, .int (nI kD)), (2, .int (nI (cntS fnw (nI kC) k6))), (1, .int (nI kC)), (0, .ref h0)]) hx hb gX12_findClocks_6.2.2.2.2.2.2.2.1 hl (by decide) rfl (fun ls hl => ?_)
                  refine lv_bipush (v := 104) hx hb gX12_findClocks_6.2.2.2.2.2.2.2.2.1 (by decide) ?_
                  refine lv_iconst (v := 3) hx hb gX12_findClocks_6.2.2.2.2.2.2.2.2.2 (by decide) ?_
                  refine lv_aload_n hx hb gX12_findClocks_7.1 rfl (lv_at4 hl) ?_
                  refine lv_iload_n hx hb gX12_findClocks_7.2.1 rfl (lv_at3 hl) ?_
                  refine lv_iload_n hx hb gX12_findClocks_7.2.2.1 rfl (lv_at1 hl) ?_
                  refine pV hC hK hl hP hD (m_stampAtX l G k6 h0 kC kD nw nk mhasKept nt mtaped nr mrowMany mroundOf mroundFrom (nI jw) nm mfromHour mtoHour ns mfrom mto msort misFault mdeep mcoded mlines nl nc nF np ntr nb mbestCost nso nsi nit nsh nsf nss nrc mtraced mdealer mnumber mwhose msize misParted fnw (e6) (hk6) (by omega)) si_X12_142 [0, 1] sm_0_1 fm_0_1 nd_0_1 rfl rfl rfl rfl rfl (Nat.le_of_ble_eq_true rfl) rm_4_2_5 ⟨by first | exact Nat.le_of_ble_eq_true rfl | exact Nat.zero_le _, by first | exact Nat.le_of_ble_eq_true rfl | exact Nat.zero_le _⟩ gX12_findClocks_7.2.2.2.1 (fun r6268 hr6268 => ?_)
                  obtain ⟨s9_6269, hpx6269, rfl⟩ := hr6268
                  try dsimp only at hpx6269
                  refine lv_imul hx hb gX12_findClocks_7.2.2.2.2.1 ?_
                  refine eqi (x1 := nI (3 * s9_6269)) (nI_mul 3 s9_6269) ?_
                  refine lv_iadd hx hb gX12_findClocks_7.2.2.2.2.2.1 ?_
                  refine eqi (x1 := nI (104 + 3 * s9_6269)) (nI_add 104 (3 * s9_6269)) ?_
                  refine lv_istore (lv' := [(5, .int (nI (104 + 3 * s9_6269))), (4, .int (nI (104 + 3 * s9_6267))), (3, .int (nI kD)), (2, .int (nI (cntS fnw (nI kC) k6))), (1, .int (nI kC)), (0, .ref h0)]) hx hb gX12_findClocks_7.2.2.2.2.2.2.1 hl (by decide) rfl (fun ls hl => ?_)
                  obtain ⟨cc6270, hcc6270, ecc6270⟩ := NI.nat hN (i := 104 + 3 * s9_6267 + 1) (B := 5) (bnd_st1 (s := s9_6267) rfl (by have h9 := hpx6267.1; omega)) (by decide)
                  have hh1 : 0 ≤ (fnw (104 + 3 * s9_6267 + 2)).toInt ∧ (fnw (104 + 3 * s9_6267 + 2)).toInt ≤ 999 := NI.hour hN (by have h9 := hpx6267.1; omega)
                  have hs1b := hpx6267.1
                  obtain ⟨cc6271, hcc6271, ecc6271⟩ := NI.nat hN (i := 104 + 3 * s9_6269 + 1) (B := 5) (bnd_st1 (s := s9_6269) rfl (by have h9 := hpx6269.1; omega)) (by decide)
                  have hh2 : 0 ≤ (fnw (104 + 3 * s9_6269 + 2)).toInt ∧ (fnw (104 + 3 * s9_6269 + 2)).toInt ≤ 999 := NI.hour hN (by have h9 := hpx6269.1; omega)
                  have hs2b := hpx6269.1
                  refine lv_aload_n hx hb gX12_findClocks_7.2.2.2.2.2.2.2.1 rfl (lv_at5 hl) ?_
                  refine gf_X12_9 hC rfl hK hP 0 rfl rfl gX12_findClocks_7.2.2.2.2.2.2.2.2.1 ?_
                  refine lv_iload hx hb gX12_findClocks_7.2.2.2.2.2.2.2.2.2 (lv_at0 hl) ?_
                  refine lv_iconst (v := 2) hx hb gX12_findClocks_8.1 (by decide) ?_
                  refine lv_iadd hx hb gX12_findClocks_8.2.1 ?_
                  refine eqi (x1 := nI (104 + 3 * s9_6269 + 2)) (nI_add (104 + 3 * s9_6269) 2) ?_
                  refine aldN hC hK hP 1 rfl (k := (104 + 3 * s9_6269 + 2)) (by omega) (Nat.le_of_ble_eq_true rfl) (v := fnw (104 + 3 * s9_6269 + 2)) rfl gX12_findClocks_8.2.2.1 ?_
                  refine lv_aload_n hx hb gX12_findClocks_8.2.2.2.1 rfl (lv_at5 hl) ?_
                  refine gf_X12_9 hC rfl hK hP 0 rfl rfl gX12_findClocks_8.2.2.2.2.1 ?_
                  refine lv_iload hx hb gX12_findClocks_8.2.2.2.2.2.1 (lv_at1 hl) ?_
                  refine lv_iconst (v := 2) hx hb gX12_findClocks_8.2.2.2.2.2.2.1 (by decide) ?_
                  refine lv_iadd hx hb gX12_findClocks_8.2.2.2.2.2.2.2.1 ?_
                  refine eqi (x1 := nI (104 + 3 * s9_6267 + 2)) (nI_add (104 + 3 * s9_6267) 2) ?_
                  refine aldN hC hK hP 1 rfl (k := (104 + 3 * s9_6267 + 2)) (by omega) (Nat.le_of_ble_eq_true rfl) (v := fnw (104 + 3 * s9_6267 + 2)) rfl gX12_findClocks_8.2.2.2.2.2.2.2.2.1 ?_
                  refine lv_isub hx hb gX12_findClocks_8.2.2.2.2.2.2.2.2.2 ?_
                  refine lv_istore (lv' := [(6, .int ((fnw (104 + 3 * s9_6269 + 2)) - (fnw (104 + 3 * s9_6267 + 2)))), (5, .int (nI (104 + 3 * s9_6269))), (4, .int (nI (104 + 3 * s9_6267))), (3, .int (nI kD)), (2, .int (nI (cntS fnw (nI kC) k6))), (1, .int (nI kC)), (0, .ref h0)]) hx hb gX12_findClocks_9.1 hl (by decide) rfl (fun ls hl => ?_)
                  refine lv_aload_n hx hb gX12_findClocks_9.2.1 rfl (lv_at6 hl) ?_
                  refine lv_aload_n hx hb gX12_findClocks_9.2.2.1 rfl (lv_at6 hl) ?_
                  refine gf_X12_9 hC rfl hK hP 0 rfl rfl gX12_findClocks_9.2.2.2.1 ?_
                  refine lv_iload hx hb gX12_findClocks_9.2.2.2.2.1 (lv_at2 hl) ?_
                  refine lv_iconst (v := 1) hx hb gX12_findClocks_9.2.2.2.2.2.1 (by decide) ?_
                  refine lv_iadd hx hb gX12_findClocks_9.2.2.2.2.2.2.1 ?_
                  refine eqi (x1 := nI (104 + 3 * s9_6267 + 1)) (nI_add (104 + 3 * s9_6267) 1) ?_
                  refine aldN hC hK hP 1 rfl (k := 104 + 3 * s9_6267 + 1) (by omega) (Nat.le_of_ble_eq_true rfl) (v := nI cc6270) (ecc6270) gX12_findClocks_9.2.2.2.2.2.2.2.1 ?_
                  refine lv_aload_n hx hb gX12_findClocks_9.2.2.2.2.2.2.2.2.1 rfl (lv_at6 hl) ?_
                  refine gf_X12_9 hC rfl hK hP 0 rfl rfl gX12_findClocks_9.2.2.2.2.2.2.2.2.2 ?_
                  refine lv_iload hx hb gX12_findClocks_10.1 (lv_at1 hl) ?_
                  refine lv_iconst (v := 1) hx hb gX12_findClocks_10.2.1 (by decide) ?_
                  refine lv_iadd hx hb gX12_findClocks_10.2.2.1 ?_
                  refine eqi (x1 := nI (104 + 3 * s9_6269 + 1)) (nI_add (104 + 3 * s9_6269) 1) ?_
                  refine aldN hC hK hP 1 rfl (k := 104 + 3 * s9_6269 + 1) (by omega) (Nat.le_of_ble_eq_true rfl) (v := nI cc6271) (ecc6271) gX12_findClocks_10.2.2.2.1 ?_
                  refine lv_iload hx hb gX12_findClocks_10.2.2.2.2.1 (lv_at0 hl) ?_
                  refine vV (wr := [(nw, iA G 1662 fnw)]) hC hK hl hP hD hS hA (m_atMostX l G h0 cc6270 cc6271 ((fnw (104 + 3 * s9_6269 + 2)) - (fnw (104 + 3 * s9_6267 + 2))) nw nk mhasKept nt mtaped nr mrowMany mroundOf mroundFrom (nI jw) nm mfromHour mtoHour ns mfrom mto msort misFault mdeep mcoded mlines nl nc nF np ntr nb mbestCost nso nsi nit nsh nsf nss nrc mtraced mdealer mnumber mwhose msize misParted vD (by omega) (by omega)) si_X12_145 [0, 2] [1] sm_0_2 fm_0_2 nd_0_2 sm_1 nd_1 dj_0_2__1 rfl rfl rfl rfl rfl (Nat.le_of_ble_eq_true rfl) rm_4_2_4 ⟨Nat.le_of_ble_eq_true rfl, Nat.le_of_ble_eq_true rfl⟩ gX12_findClocks_10.2.2.2.2.2.1 (fun gnm6274 H locs hr6272 hP hD hS => ?_)
                  try dsimp only at hr6272
                  refine Kpdr (ws := [(nw, iA G 1662 fnw), (h0, oX12 nw nk mhasKept nt mtaped nr mrowMany mroundOf mroundFrom (nI jw) nm mfromHour mtoHour ns mfrom mto msort misFault mdeep mcoded mlines nl nc nF np ntr nb mbestCost nso nsi nit nsh nsf nss nrc mtraced mdealer mnumber mwhose msize misParted), (nm, iA G 36 gnm6274)]) hP hD (fun hP hD => ?_)
                  have w6275 := hr6272
                  refine lv_aload_n hx hb gX12_findClocks_10.2.2.2.2.2.2.1 rfl (lv_at6 hl) ?_
                  refine lv_aload_n hx hb gX12_findClocks_10.2.2.2.2.2.2.2.1 rfl (lv_at6 hl) ?_
                  refine gf_X12_9 hC rfl hK hP 1 rfl rfl gX12_findClocks_10.2.2.2.2.2.2.2.2.1 ?_
                  refine lv_iload hx hb gX12_findClocks_10.2.2.2.2.2.2.2.2.2 (lv_at1 hl) ?_
                  refine lv_iconst (v := 1) hx hb gX12_findClocks_11.1 (by decide) ?_
                  refine lv_iadd hx hb gX12_findClocks_11.2.1 ?_
                  refine eqi (x1 := nI (104 + 3 * s9_6269 + 1)) (nI_add (104 + 3 * s9_6269) 1) ?_
                  refine aldN hC hK hP 0 rfl (k := 104 + 3 * s9_6269 + 1) (by omega) (Nat.le_of_ble_eq_true rfl) (v := nI cc6271) (ecc6271) gX12_findClocks_11.2.2.1 ?_
                  refine lv_aload_n hx hb gX12_findClocks_11.2.2.2.1 rfl (lv_at6 hl) ?_
                  refine gf_X12_9 hC rfl hK hP 1 rfl rfl gX12_findClocks_11.2.2.2.2.1 ?_
                  refine lv_iload hx hb gX12_findClocks_11.2.2.2.2.2.1 (lv_at2 hl) ?_
                  refine lv_iconst (v := 1) hx hb gX12_findClocks_11.2.2.2.2.2.2.1 (by decide) ?_
                  refine lv_iadd hx hb gX12_findClocks_11.2.2.2.2.2.2.2.1 ?_
                  refine eqi (x1 := nI (104 + 3 * s9_6267 + 1)) (nI_add (104 + 3 * s9_6267) 1) ?_
                  refine aldN hC hK hP 0 rfl (k := 104 + 3 * s9_6267 + 1) (by omega) (Nat.le_of_ble_eq_true rfl) (v := nI cc6270) (ecc6270) gX12_findClocks_11.2.2.2.2.2.2.2.2.1 ?_
                  refine lv_aload_n hx hb gX12_findClocks_11.2.2.2.2.2.2.2.2.2 rfl (lv_at6 hl) ?_
                  refine gf_X12_9 hC rfl hK hP 1 rfl rfl gX12_findClocks_12.1 ?_
                  refine lv_iconst (v := 3) hx hb gX12_findClocks_12.2.1 (by decide) ?_
                  refine ald hC hK hP 0 rfl (vin (by decide +kernel)) (k := 3) (by decide +kernel) (v := fnw 3) (rfl) gX12_findClocks_12.2.2.1 ?_
                  refine lv_iload hx hb gX12_findClocks_12.2.2.2.1 (lv_at0 hl) ?_
                  refine lv_isub hx hb gX12_findClocks_12.2.2.2.2.1 ?_
                  refine vV (wr := [(nw, iA G 1662 fnw)]) hC hK hl hP hD hS hA (m_atMostX l G h0 cc6271 cc6270 ((fnw 3) - ((fnw (104 + 3 * s9_6269 + 2)) - (fnw (104 + 3 * s9_6267 + 2)))) nw nk mhasKept nt mtaped nr mrowMany mroundOf mroundFrom (nI jw) nm mfromHour mtoHour ns mfrom mto msort misFault mdeep mcoded mlines nl nc nF np ntr nb mbestCost nso nsi nit nsh nsf nss nrc mtraced mdealer mnumber mwhose msize misParted gnm6274 (by omega) (by omega)) si_X12_145 [1, 2] [0] sm_1_2 fm_1_2 nd_1_2 sm_0 nd_0 dj_1_2__0 rfl rfl rfl rfl rfl (Nat.le_of_ble_eq_true rfl) rm_4_2_4 ⟨Nat.le_of_ble_eq_true rfl, Nat.le_of_ble_eq_true rfl⟩ gX12_findClocks_12.2.2.2.2.2.1 (fun gnm6278 H locs hr6276 hP hD hS => ?_)
                  try dsimp only at hr6276
                  refine Kpdr (ws := [(nw, iA G 1662 fnw), (h0, oX12 nw nk mhasKept nt mtaped nr mrowMany mroundOf mroundFrom (nI jw) nm mfromHour mtoHour ns mfrom mto msort misFault mdeep mcoded mlines nl nc nF np ntr nb mbestCost nso nsi nit nsh nsf nss nrc mtraced mdealer mnumber mwhose msize misParted), (nm, iA G 36 gnm6278)]) hP hD (fun hP hD => ?_)
                  have w6279 := hr6276
                  refine lv_iinc (v := nI (kD + 1)) (lv' := [(3, .int (nI (kD + 1))), (6, .int ((fnw (104 + 3 * s9_6269 + 2)) - (fnw (104 + 3 * s9_6267 + 2)))), (5, .int (nI (104 + 3 * s9_6269))), (4, .int (nI (104 + 3 * s9_6267))), (2, .int (nI (cntS fnw (nI kC) k6))), (1, .int (nI kC)), (0, .ref h0)]) hx hb gX12_findClocks_12.2.2.2.2.2.2.1 hl (k := 3) rfl (nI_1 _) (by decide) rfl (fun ls hl => ?_)
                  refine lv_goto (tgt := 95) hx hb gX12_findClocks_12.2.2.2.2.2.2.2.1 (by decide) ?_
                  refine Kpds (ws' := [(h0, oX12 nw nk mhasKept nt mtaped nr mrowMany mroundOf mroundFrom (nI jw) nm mfromHour mtoHour ns mfrom mto msort misFault mdeep mcoded mlines nl nc nF np ntr nb mbestCost nso nsi nit nsh nsf nss nrc mtraced mdealer mnumber mwhose msize misParted), (nw, iA G 1662 fnw), (nm, iA G 36 gnm6278)]) hP hD [1, 0, 2] fm_1_0_2 nd_1_0_2 sm_1_0_2 (fun hP hD => ?_)
                  have hst9 : PHI (KST (shf fnw 104) (VSO fnw kq jw) (fnw 3).toInt k6) (KCV fnw (VSO fnw kq jw) (fnw 3).toInt k6 kC (kD + 1)) (MAT gnm6278) := hvD.stepR hpx6267 hpx6269 hk1 (by omega) ⟨by omega, a6263⟩ ecc6270 ecc6271 (by omega) (by omega) hh1.1 hh1.2 hh2.1 hh2.2 hgp w6275 w6279
                  exact ihD (kD + 1) gnm6278 _ _ _ (by omega) (by first | assumption | exact Or.inl rfl | exact Or.inr rfl | omega) (by first | assumption | exact Or.inl rfl | exact Or.inr rfl | omega) (And.intro hP hD) hS (lv_sub hl [0, 4, 5, 6] rfl)
              exact keyD ((cntS fnw (nI kC) k6) - 1) 1 vC _ _ _ (by omega) (by first | assumption | exact Or.inl rfl | exact Or.inr rfl | omega) (by first | assumption | exact Or.inl rfl | exact Or.inr rfl | omega) (And.intro hP hD) hS (lv_sub hl [0, 1, 2, 3] rfl)
          · refine lv_if_eq (tgt := 91) hx hb gX12_findClocks_4.2.2.2.2.2.1 (by decide) (fun _ => ?_) (fun c9 => absurd (by decide) c9)
            refine lv_iconst (v := 0) hx hb gX12_findClocks_5.1 (by decide) ?_
            refine lv_istore_n (lv' := [(2, .int 0), (1, .int (nI kC)), (0, .ref h0)]) hx hb gX12_findClocks_5.2.1 rfl hl (by decide) rfl (fun ls hl => ?_)
            refine lv_iconst (v := 1) hx hb gX12_findClocks_5.2.2.1 (by decide) ?_
            refine lv_istore_n (lv' := [(3, .int 1), (2, .int 0), (1, .int (nI kC)), (0, .ref h0)]) hx hb gX12_findClocks_5.2.2.2.1 rfl hl (by decide) rfl (fun ls hl => ?_)
            refine lv_iload_n hx hb gX12_findClocks_5.2.2.2.2.1 rfl (lv_at0 hl) ?_
            refine lv_iload_n hx hb gX12_findClocks_5.2.2.2.2.2.1 rfl (lv_at1 hl) ?_
            refine lv_icmp_ge (tgt := 210) hx hb gX12_findClocks_5.2.2.2.2.2.2.1 (by decide) (fun _ => ?_) (fun c9 => absurd (by decide) c9)
            refine lv_iinc (v := nI (kC + 1)) (lv' := [(1, .int (nI (kC + 1))), (3, .int 1), (2, .int 0), (0, .ref h0)]) hx hb gX12_findClocks_12.2.2.2.2.2.2.2.2.1 hl (k := 2) rfl (nI_1 _) (by decide) rfl (fun ls hl => ?_)
            refine lv_goto (tgt := 65) hx hb gX12_findClocks_12.2.2.2.2.2.2.2.2.2 (by decide) ?_
            have hst9 : PHI (KST (shf fnw 104) (VSO fnw kq jw) (fnw 3).toInt k6) (KCV fnw (VSO fnw kq jw) (fnw 3).toInt k6 (kC + 1) 1) (MAT vC) := hvC.paper (fun h9 => absurd h9.2 a6263)
            exact ihC (kC + 1) vC _ _ _ (by omega) (by first | assumption | exact Or.inl rfl | exact Or.inr rfl) (And.intro hP hD) hS (lv_sub hl [0, 3] rfl)
      exact keyC kq 0 vA _ _ _ (by omega) (by first | assumption | exact Or.inl rfl | exact Or.inr rfl) (And.intro hP hD) hS (lv_sub hl [0, 1] rfl)
    | succ nA ihA =>
      intro kA vA H locs ls hkA hvA hPD hS hl
      refine Kan2 hPD (fun hP hD => ?_)
      refine lv_iload_n hx hb gX12_findClocks_0.2.2.1 rfl (lv_at0 hl) ?_
      refine lv_bipush (v := 6) hx hb gX12_findClocks_0.2.2.2.1 (by decide) ?_
      refine lv_icmp_ge (tgt := 63) hx hb gX12_findClocks_0.2.2.2.2.1 (by decide) (fun c9 => absurd c9 (nI_ge (a := kA) (b := 6) (by omega) (by omega))) (fun _ => ?_)
      refine lv_iconst (v := 0) hx hb gX12_findClocks_0.2.2.2.2.2.1 (by decide) ?_
      refine lv_istore_n (lv' := [(2, .int 0), (1, .int (nI kA)), (0, .ref h0)]) hx hb gX12_findClocks_0.2.2.2.2.2.2.1 rfl hl (by decide) rfl (fun ls hl => ?_)
      have keyB : ∀ (nB kB : Nat) (vB : Nat → Int32) (H : Heap) (locs : List Loc) (ls : Array Slot), kB + nB = 6 → (FRP kA kB (MAT vB)) → va_PD G A [(h0, oX12 nw nk mhasKept nt mtaped nr mrowMany mroundOf mroundFrom (nI jw) nm mfromHour mtoHour ns mfrom mto msort misFault mdeep mcoded mlines nl nc nF np ntr nb mbestCost nso nsi nit nsh nsf nss nrc mtraced mdealer mnumber mwhose msize misParted), (nw, iA G 1662 fnw), (nm, iA G 36 vB)] H → va_S A s.heap H locs → lv_has ls 7 [(2, .int (nI kB)), (1, .int (nI kA)), (0, .ref h0)] → W p l e (RM 4 0 0) s m ([.ref h0] : List Value).toArray below meth c H locs 0 0 Q0 (F0 m 10 ls []) := by
        intro nB
        induction nB with
        | zero =>
          intro kB vB H locs ls hkB hvB hPD hS hl
          refine Kan2 hPD (fun hP hD => ?_)
          obtain rfl : 6 = kB := by omega
          have hl : lv_has ls 7 [(2, .int 6), (1, .int (nI kA)), (0, .ref h0)] := hl
          refine lv_iload_n hx hb gX12_findClocks_0.2.2.2.2.2.2.2.1 rfl (lv_at0 hl) ?_
          refine lv_bipush (v := 6) hx hb gX12_findClocks_0.2.2.2.2.2.2.2.2.1 (by decide) ?_
          refine lv_icmp_ge (tgt := 57) hx hb gX12_findClocks_0.2.2.2.2.2.2.2.2.2 (by decide) (fun _ => ?_) (fun c9 => absurd (by decide) c9)
          refine lv_iinc (v := nI (kA + 1)) (lv' := [(1, .int (nI (kA + 1))), (2, .int 6), (0, .ref h0)]) hx hb gX12_findClocks_3.2.2.1 hl (k := 1) rfl (nI_1 _) (by decide) rfl (fun ls hl => ?_)
          refine lv_goto (tgt := 2) hx hb gX12_findClocks_3.2.2.2.1 (by decide) ?_
          have hst8 : FRP (kA + 1) 0 (MAT vB) := FRP.row hvB
          exact ihA (kA + 1) vB _ _ _ (by omega) (by first | assumption | exact Or.inl rfl | exact Or.inr rfl | exact FRP.zero) (And.intro hP hD) hS (lv_sub hl [0, 2] rfl)
        | succ nB ihB =>
          intro kB vB H locs ls hkB hvB hPD hS hl
          refine Kan2 hPD (fun hP hD => ?_)
          refine lv_iload_n hx hb gX12_findClocks_0.2.2.2.2.2.2.2.1 rfl (lv_at0 hl) ?_
          refine lv_bipush (v := 6) hx hb gX12_findClocks_0.2.2.2.2.2.2.2.2.1 (by decide) ?_
          refine lv_icmp_ge (tgt := 57) hx hb gX12_findClocks_0.2.2.2.2.2.2.2.2.2 (by decide) (fun c9 => absurd c9 (nI_ge (a := kB) (b := 6) (by omega) (by omega))) (fun _ => ?_)
          refine lv_aload_n hx hb gX12_findClocks_1.1 rfl (lv_at2 hl) ?_
          refine gf_X12_26 hC rfl hK hP 0 rfl rfl gX12_findClocks_1.2.1 ?_
          refine lv_bipush (v := 6) hx hb gX12_findClocks_1.2.2.1 (by decide) ?_
          refine lv_iload_n hx hb gX12_findClocks_1.2.2.2.1 rfl (lv_at1 hl) ?_
          refine lv_imul hx hb gX12_findClocks_1.2.2.2.2.1 ?_
          refine eqi (x1 := nI (6 * kA)) (nI_mul 6 kA) ?_
          refine lv_iload_n hx hb gX12_findClocks_1.2.2.2.2.2.1 rfl (lv_at0 hl) ?_
          refine lv_iadd hx hb gX12_findClocks_1.2.2.2.2.2.2.1 ?_
          refine eqi (x1 := nI (6 * kA + kB)) (nI_add (6 * kA) kB) ?_
          refine lv_iload_n hx hb gX12_findClocks_1.2.2.2.2.2.2.2.1 rfl (lv_at1 hl) ?_
          refine lv_iload_n hx hb gX12_findClocks_1.2.2.2.2.2.2.2.2.1 rfl (lv_at0 hl) ?_
          refine lv_icmp_ne (tgt := 35) hx hb gX12_findClocks_1.2.2.2.2.2.2.2.2.2 (by decide) (fun c_28_6280 => ?_) (fun c_28_6280 => ?_)
          · refine lv_iload_n hx hb gX12_findClocks_2.2.2.1 rfl (lv_at1 hl) ?_
            refine lv_if_eq (tgt := 43) hx hb gX12_findClocks_2.2.2.2.1 (by decide) (fun c_36_6281 => ?_) (fun c_36_6281 => ?_)
            · refine lv_bipush (v := 60) hx hb gX12_findClocks_2.2.2.2.2.2.2.1 (by decide) ?_
              refine lv_goto (tgt := 50) hx hb gX12_findClocks_2.2.2.2.2.2.2.2.1 (by decide) ?_
              refine astN hC hK hP hD hS 2 (ws' := [(h0, oX12 nw nk mhasKept nt mtaped nr mrowMany mroundOf mroundFrom (nI jw) nm mfromHour mtoHour ns mfrom mto msort misFault mdeep mcoded mlines nl nc nF np ntr nb mbestCost nso nsi nit nsh nsf nss nrc mtraced mdealer mnumber mwhose msize misParted), (nw, iA G 1662 fnw), (nm, iA G 36 (upd vB (6 * kA + kB) 60))]) rfl (k := (6 * kA + kB)) (by omega) (Nat.le_of_ble_eq_true rfl) (rfl) gX12_findClocks_2.2.2.2.2.2.2.2.2.2 (fun H locs hP hD hS => ?_)
              refine lv_iinc (v := nI (kB + 1)) (lv' := [(2, .int (nI (kB + 1))), (1, .int (nI kA)), (0, .ref h0)]) hx hb gX12_findClocks_3.1 hl (k := 0) rfl (nI_1 _) (by decide) rfl (fun ls hl => ?_)
              refine lv_goto (tgt := 10) hx hb gX12_findClocks_3.2.1 (by decide) ?_
              have n1 : kA = 0 := nI_z9 (by omega) c_36_6281
              have n3 : ¬ kA = kB := fun h9 => c_28_6280 (congrArg nI h9)
              have hst9 : FRP kA (kB + 1) (MAT (upd vB (6 * kA + kB) 60)) := FRP.set6 hvB (by omega) (by have e0 : (0 : Int32).toInt = 0 := (by decide); have e60 : (60 : Int32).toInt = 60 := (by decide); have e120 : (120 : Int32).toInt = 120 := (by decide); unfold BASW; split <;> (first | omega | (split <;> omega)))
              exact ihB (kB + 1) (upd vB (6 * kA + kB) 60) _ _ _ (by omega) (by first | assumption | exact Or.inl rfl | exact Or.inr rfl) (And.intro hP hD) hS (lv_sub hl [0, 1, 2] rfl)
            · refine lv_iload_n hx hb gX12_findClocks_2.2.2.2.2.1 rfl (lv_at0 hl) ?_
              refine lv_if_ne (tgt := 48) hx hb gX12_findClocks_2.2.2.2.2.2.1 (by decide) (fun c_40_6282 => ?_) (fun c_40_6282 => ?_)
              · refine lv_bipush (v := 120) hx hb gX12_findClocks_2.2.2.2.2.2.2.2.2.1 (by decide) ?_
                refine astN hC hK hP hD hS 2 (ws' := [(h0, oX12 nw nk mhasKept nt mtaped nr mrowMany mroundOf mroundFrom (nI jw) nm mfromHour mtoHour ns mfrom mto msort misFault mdeep mcoded mlines nl nc nF np ntr nb mbestCost nso nsi nit nsh nsf nss nrc mtraced mdealer mnumber mwhose msize misParted), (nw, iA G 1662 fnw), (nm, iA G 36 (upd vB (6 * kA + kB) 120))]) rfl (k := (6 * kA + kB)) (by omega) (Nat.le_of_ble_eq_true rfl) (rfl) gX12_findClocks_2.2.2.2.2.2.2.2.2.2 (fun H locs hP hD hS => ?_)
                refine lv_iinc (v := nI (kB + 1)) (lv' := [(2, .int (nI (kB + 1))), (1, .int (nI kA)), (0, .ref h0)]) hx hb gX12_findClocks_3.1 hl (k := 0) rfl (nI_1 _) (by decide) rfl (fun ls hl => ?_)
                refine lv_goto (tgt := 10) hx hb gX12_findClocks_3.2.1 (by decide) ?_
                have n1 : ¬ kA = 0 := fun h9 => c_36_6281 (congrArg nI h9)
                have n2 : ¬ kB = 0 := fun h9 => c_40_6282 (congrArg nI h9)
                have n3 : ¬ kA = kB := fun h9 => c_28_6280 (congrArg nI h9)
                have hst9 : FRP kA (kB + 1) (MAT (upd vB (6 * kA + kB) 120)) := FRP.set6 hvB (by omega) (by have e0 : (0 : Int32).toInt = 0 := (by decide); have e60 : (60 : Int32).toInt = 60 := (by decide); have e120 : (120 : Int32).toInt = 120 := (by decide); unfold BASW; split <;> (first | omega | (split <;> omega)))
                exact ihB (kB + 1) (upd vB (6 * kA + kB) 120) _ _ _ (by omega) (by first | assumption | exact Or.inl rfl | exact Or.inr rfl) (And.intro hP hD) hS (lv_sub hl [0, 1, 2] rfl)
              · refine lv_bipush (v := 60) hx hb gX12_findClocks_2.2.2.2.2.2.2.1 (by decide) ?_
                refine lv_goto (tgt := 50) hx hb gX12_findClocks_2.2.2.2.2.2.2.2.1 (by decide) ?_
                refine astN hC hK hP hD hS 2 (ws' := [(h0, oX12 nw nk mhasKept nt mtaped nr mrowMany mroundOf mroundFrom (nI jw) nm mfromHour mtoHour ns mfrom mto msort misFault mdeep mcoded mlines nl nc nF np ntr nb mbestCost nso nsi nit nsh nsf nss nrc mtraced mdealer mnumber mwhose msize misParted), (nw, iA G 1662 fnw), (nm, iA G 36 (upd vB (6 * kA + kB) 60))]) rfl (k := (6 * kA + kB)) (by omega) (Nat.le_of_ble_eq_true rfl) (rfl) gX12_findClocks_2.2.2.2.2.2.2.2.2.2 (fun H locs hP hD hS => ?_)
                refine lv_iinc (v := nI (kB + 1)) (lv' := [(2, .int (nI (kB + 1))), (1, .int (nI kA)), (0, .ref h0)]) hx hb gX12_findClocks_3.1 hl (k := 0) rfl (nI_1 _) (by decide) rfl (fun ls hl => ?_)
                refine lv_goto (tgt := 10) hx hb gX12_findClocks_3.2.1 (by decide) ?_
                have n1 : ¬ kA = 0 := fun h9 => c_36_6281 (congrArg nI h9)
                have n2 : kB = 0 := nI_z9 (by omega) c_40_6282
                have n3 : ¬ kA = kB := fun h9 => c_28_6280 (congrArg nI h9)
                have hst9 : FRP kA (kB + 1) (MAT (upd vB (6 * kA + kB) 60)) := FRP.set6 hvB (by omega) (by have e0 : (0 : Int32).toInt = 0 := (by decide); have e60 : (60 : Int32).toInt = 60 := (by decide); have e120 : (120 : Int32).toInt = 120 := (by decide); unfold BASW; split <;> (first | omega | (split <;> omega)))
                exact ihB (kB + 1) (upd vB (6 * kA + kB) 60) _ _ _ (by omega) (by first | assumption | exact Or.inl rfl | exact Or.inr rfl) (And.intro hP hD) hS (lv_sub hl [0, 1, 2] rfl)
          · refine lv_iconst (v := 0) hx hb gX12_findClocks_2.1 (by decide) ?_
            refine lv_goto (tgt := 50) hx hb gX12_findClocks_2.2.1 (by decide) ?_
            refine astN hC hK hP hD hS 2 (ws' := [(h0, oX12 nw nk mhasKept nt mtaped nr mrowMany mroundOf mroundFrom (nI jw) nm mfromHour mtoHour ns mfrom mto msort misFault mdeep mcoded mlines nl nc nF np ntr nb mbestCost nso nsi nit nsh nsf nss nrc mtraced mdealer mnumber mwhose msize misParted), (nw, iA G 1662 fnw), (nm, iA G 36 (upd vB (6 * kA + kB) 0))]) rfl (k := (6 * kA + kB)) (by omega) (Nat.le_of_ble_eq_true rfl) (rfl) gX12_findClocks_2.2.2.2.2.2.2.2.2.2 (fun H locs hP hD hS => ?_)
            refine lv_iinc (v := nI (kB + 1)) (lv' := [(2, .int (nI (kB + 1))), (1, .int (nI kA)), (0, .ref h0)]) hx hb gX12_findClocks_3.1 hl (k := 0) rfl (nI_1 _) (by decide) rfl (fun ls hl => ?_)
            refine lv_goto (tgt := 10) hx hb gX12_findClocks_3.2.1 (by decide) ?_
            have n3 : kA = kB := (nI_eq (by omega) (by omega)).mp c_28_6280
            have hst9 : FRP kA (kB + 1) (MAT (upd vB (6 * kA + kB) 0)) := FRP.set6 hvB (by omega) (by have e0 : (0 : Int32).toInt = 0 := (by decide); have e60 : (60 : Int32).toInt = 60 := (by decide); have e120 : (120 : Int32).toInt = 120 := (by decide); unfold BASW; split <;> (first | omega | (split <;> omega)))
            exact ihB (kB + 1) (upd vB (6 * kA + kB) 0) _ _ _ (by omega) (by first | assumption | exact Or.inl rfl | exact Or.inr rfl) (And.intro hP hD) hS (lv_sub hl [0, 1, 2] rfl)
      exact keyB 6 0 vA _ _ _ (by omega) (by first | assumption | exact Or.inl rfl | exact Or.inr rfl) (And.intro hP hD) hS (lv_sub hl [0, 1, 2] rfl)
  exact keyA 6 0 fnm _ _ _ (by omega) (by first | assumption | exact Or.inl rfl | exact Or.inr rfl | exact FRP.zero) (And.intro hP hD) hS (lv_sub hl [0, 1] rfl)
def K_m_doubtX (l : Launch) (G : GG) (kq : Nat) (k6 : Nat) (h0 : Nat) (nw : Nat) (nk : Nat) (mhasKept : Int32) (nt : Nat) (mtaped : Int32) (nr : Nat) (mrowMany : Int32) (mroundOf : Int32) (mroundFrom : Int32) (nm : Nat) (mfromHour : Int32) (mtoHour : Int32) (ns : Nat) (mfrom : Int32) (mto : Int32) (msort : Int32) (misFault : Int32) (mdeep : Int32) (mcoded : Int32) (mlines : Int32) (nl : Nat) (nc : Nat) (nF : Nat) (np : Nat) (ntr : Nat) (nb : Nat) (mbestCost : Int32) (nso : Nat) (nsi : Nat) (nit : Nat) (nsh : Nat) (nsf : Nat) (nss : Nat) (nrc : Nat) (mtraced : Int32) (mdealer : Int32) (mnumber : Int32) (mwhose : Int32) (msize : Int32) (misParted : Int32) (fnw : Nat → Int32) (fnm : Nat → Int32) : Prop := MI l G yX12_doubt cX12_doubt 6 (some .int) 6 0 0 [.ref h0] [(h0, oX12 nw nk mhasKept nt mtaped nr mrowMany mroundOf mroundFrom 0 nm mfromHour mtoHour ns mfrom mto msort misFault mdeep mcoded mlines nl nc nF np ntr nb mbestCost nso nsi nit nsh nsf nss nrc mtraced mdealer mnumber mwhose msize misParted), (nw, iA G 1662 fnw), (nm, iA G 36 fnm)] (fun (r : Int32) (u : (Nat → Int32)) => (∃ W9, (DBQ (shf fnw 104) (VSE fnw kq) (CDB fnw kq k6) (fnw 3).toInt k6 W9) ∧ r = nI W9) ∧ (MB u)) (fun u : (Nat → Int32) => [(h0, oX12 nw nk mhasKept nt mtaped nr mrowMany mroundOf mroundFrom 0 nm mfromHour mtoHour ns mfrom mto msort misFault mdeep mcoded mlines nl nc nF np ntr nb mbestCost nso nsi nit nsh nsf nss nrc mtraced mdealer mnumber mwhose msize misParted), (nw, iA G 1662 fnw), (nm, iA G 36 u)])
set_option maxHeartbeats 4000000 in
set_option maxRecDepth 100000 in
theorem m_doubtX (l : Launch) (G : GG) (kq : Nat) (k6 : Nat) (h0 : Nat) (nw : Nat) (nk : Nat) (mhasKept : Int32) (nt : Nat) (mtaped : Int32) (nr : Nat) (mrowMany : Int32) (mroundOf : Int32) (mroundFrom : Int32) (nm : Nat) (mfromHour : Int32) (mtoHour : Int32) (ns : Nat) (mfrom : Int32) (mto : Int32) (msort : Int32) (misFault : Int32) (mdeep : Int32) (mcoded : Int32) (mlines : Int32) (nl : Nat) (nc : Nat) (nF : Nat) (np : Nat) (ntr : Nat) (nb : Nat) (mbestCost : Int32) (nso : Nat) (nsi : Nat) (nit : Nat) (nsh : Nat) (nsf : Nat) (nss : Nat) (nrc : Nat) (mtraced : Int32) (mdealer : Int32) (mnumber : Int32) (mwhose : Int32) (msize : Int32) (misParted : Int32) (fnw : Nat → Int32) (fnm : Nat → Int32) (hM : MB fnm) (hN : NI fnw) (hgp : GPRm (fnw 3)) (ekq : fnw 5 = nI kq) (hkq : kq ≤ 12) (e6 : fnw 6 = nI k6) (hk6 : k6 ≤ 24) : K_m_doubtX l G kq k6 h0 nw nk mhasKept nt mtaped nr mrowMany mroundOf mroundFrom nm mfromHour mtoHour ns mfrom mto msort misFault mdeep mcoded mlines nl nc nF np ntr nb mbestCost nso nsi nit nsh nsf nss nrc mtraced mdealer mnumber mwhose msize misParted fnw fnm := by
  refine MI.start (by decide +kernel) (Nat.le_of_ble_eq_true rfl) ?_
  intro p e s m below meth c A ls hC hK hP hD hS hA hl
  refine absQ (fun Q0 hQ0 => ?_)
  have hl : lv_has ls 6 [(0, .ref h0)] := hl
  refine Kan8 hC (fun hx hb hr hml hB hown hlocks hnm => ?_)
  obtain ⟨N9, eN9⟩ : ∃ N9 : Nat, N9 = 2 ^ kq := ⟨_, rfl⟩
  have hN9 : N9 ≤ 4096 := by rw [eN9]; exact Nat.pow_le_pow_right (n := 2) (by decide) (show kq ≤ 12 by omega)
  refine lv_iconst (v := 0) hx hb gX12_doubt_0.1 (by decide) ?_
  refine lv_istore_n (lv' := [(1, .int 0), (0, .ref h0)]) hx hb gX12_doubt_0.2.1 rfl hl (by decide) rfl (fun ls hl => ?_)
  refine lv_bipush (v := 13) hx hb gX12_doubt_0.2.2.1 (by decide) ?_
  refine lv_istore_n (lv' := [(2, .int 13), (1, .int 0), (0, .ref h0)]) hx hb gX12_doubt_0.2.2.2.1 rfl hl (by decide) rfl (fun ls hl => ?_)
  refine lv_iconst (v := 0) hx hb gX12_doubt_0.2.2.2.2.1 (by decide) ?_
  refine lv_istore_n (lv' := [(3, .int 0), (2, .int 13), (1, .int 0), (0, .ref h0)]) hx hb gX12_doubt_0.2.2.2.2.2.1 rfl hl (by decide) rfl (fun ls hl => ?_)
  have keyP : ∀ (nP kP : Nat) (vP : Nat → Int32) (be9 : Nat) (fe9 : Nat) (H : Heap) (locs : List Loc) (ls : Array Slot), kP + nP = N9 → (MB vP) → (DBI (GDW (shf fnw 104) (VSE fnw kq) (fnw 3).toInt k6) (CDB fnw kq k6) kP be9 fe9) → va_PD G A [(h0, oX12 nw nk mhasKept nt mtaped nr mrowMany mroundOf mroundFrom 0 nm mfromHour mtoHour ns mfrom mto msort misFault mdeep mcoded mlines nl nc nF np ntr nb mbestCost nso nsi nit nsh nsf nss nrc mtraced mdealer mnumber mwhose msize misParted), (nw, iA G 1662 fnw), (nm, iA G 36 vP)] H → va_S A s.heap H locs → lv_has ls 6 [(3, .int (nI kP)), (2, .int (nI fe9)), (1, .int (nI be9)), (0, .ref h0)] → W p l e (RM 6 0 0) s m ([.ref h0] : List Value).toArray below meth c H locs 0 0 Q0 (F0 m 7 ls []) := by
    intro nP
    induction nP with
    | zero =>
      intro kP vP be9 fe9 H locs ls hkP hvP hdb hPD hS hl
      refine Kan2 hPD (fun hP hD => ?_)
      obtain rfl : N9 = kP := by omega
      have hl : lv_has ls 6 [(3, .int (nI N9)), (2, .int (nI fe9)), (1, .int (nI be9)), (0, .ref h0)] := hl
      refine lv_iload_n hx hb gX12_doubt_0.2.2.2.2.2.2.1 rfl (lv_at0 hl) ?_
      refine lv_iconst (v := 1) hx hb gX12_doubt_0.2.2.2.2.2.2.2.1 (by decide) ?_
      refine lv_aload_n hx hb gX12_doubt_0.2.2.2.2.2.2.2.2.1 rfl (lv_at3 hl) ?_
      refine gf_X12_9 hC rfl hK hP 0 rfl rfl gX12_doubt_0.2.2.2.2.2.2.2.2.2 ?_
      refine lv_iconst (v := 5) hx hb gX12_doubt_1.1 (by decide) ?_
      refine ald hC hK hP 1 rfl (vin (by decide +kernel)) (k := 5) (by decide +kernel) (v := nI kq) (ekq) gX12_doubt_1.2.1 ?_
      refine lv_ishl hx hb gX12_doubt_1.2.2.1 ?_
      refine eqi (x1 := nI N9) (by rw [eN9]; exact (sh13 ⟨kq, by omega⟩).1) ?_
      refine lv_icmp_ge (tgt := 128) hx hb gX12_doubt_1.2.2.2.1 (by decide) (fun _ => ?_) (fun c9 => absurd (Int32.le_refl _) c9)
      refine lv_iload_n hx hb gX12_doubt_6.2.2.2.2.2.2.2.2.1 rfl (lv_at2 hl) ?_
      refine toQ hQ0 ?_
      exact RI (v := nI be9) hC hP hD hS [0, 1, 2] vP rfl rfl (by decide) (⟨⟨be9, DBI.fin (SVL.ofm hN (by omega)) (by omega) (by rw [← eN9]; exact hdb), rfl⟩, by first | assumption | exact hM⟩) rfl gX12_doubt_6.2.2.2.2.2.2.2.2.2
    | succ nP ihP =>
      intro kP vP be9 fe9 H locs ls hkP hvP hdb hPD hS hl
      refine Kan2 hPD (fun hP hD => ?_)
      refine lv_iload_n hx hb gX12_doubt_0.2.2.2.2.2.2.1 rfl (lv_at0 hl) ?_
      refine lv_iconst (v := 1) hx hb gX12_doubt_0.2.2.2.2.2.2.2.1 (by decide) ?_
      refine lv_aload_n hx hb gX12_doubt_0.2.2.2.2.2.2.2.2.1 rfl (lv_at3 hl) ?_
      refine gf_X12_9 hC rfl hK hP 0 rfl rfl gX12_doubt_0.2.2.2.2.2.2.2.2.2 ?_
      refine lv_iconst (v := 5) hx hb gX12_doubt_1.1 (by decide) ?_
      refine ald hC hK hP 1 rfl (vin (by decide +kernel)) (k := 5) (by decide +kernel) (v := nI kq) (ekq) gX12_doubt_1.2.1 ?_
      refine lv_ishl hx hb gX12_doubt_1.2.2.1 ?_
      refine eqi (x1 := nI N9) (by rw [eN9]; exact (sh13 ⟨kq, by omega⟩).1) ?_
      refine lv_icmp_ge (tgt := 128) hx hb gX12_doubt_1.2.2.2.1 (by decide) (fun c9 => absurd c9 (nI_ge (a := kP) (b := N9) (by omega) (by omega))) (fun _ => ?_)
      refine lv_iload_n hx hb gX12_doubt_1.2.2.2.2.1 rfl (lv_at0 hl) ?_
      refine pS hC hK hl (m_bitsX l G (nI kP)) si_X12_110 rfl rfl (Nat.le_of_ble_eq_true rfl) rm_6_1_3 ⟨by first | exact Nat.le_of_ble_eq_true rfl | exact Nat.zero_le _, by first | exact Nat.le_of_ble_eq_true rfl | exact Nat.zero_le _⟩ gX12_doubt_1.2.2.2.2.2.1 (Keqr ?_)
      have hkw9 : kP < 4096 := by omega
      refine eqi (x1 := nI (PCN kP 12)) (bs_12 hkw9) ?_
      have hpc9 := PCN.top (w := kP) 12
      have hfe9 := hdb.le
      refine lv_iload_n hx hb gX12_doubt_1.2.2.2.2.2.2.1 rfl (lv_at1 hl) ?_
      refine lv_icmp_ge (tgt := 31) hx hb gX12_doubt_1.2.2.2.2.2.2.2.1 (by decide) (fun c_24_6285 => ?_) (fun c_24_6285 => ?_)
      · refine lv_iconst (v := 0) hx hb gX12_doubt_2.1 (by decide) ?_
        refine lv_istore (lv' := [(4, .int 0), (3, .int (nI kP)), (2, .int (nI fe9)), (1, .int (nI be9)), (0, .ref h0)]) hx hb gX12_doubt_2.2.1 hl (by decide) rfl (fun ls hl => ?_)
        refine lv_iconst (v := 0) hx hb gX12_doubt_2.2.2.1 (by decide) ?_
        refine lv_istore (lv' := [(5, .int 0), (4, .int 0), (3, .int (nI kP)), (2, .int (nI fe9)), (1, .int (nI be9)), (0, .ref h0)]) hx hb gX12_doubt_2.2.2.2.1 hl (by decide) rfl (fun ls hl => ?_)
        have hmy8 : MAY (CDB fnw kq k6) kP fe9 0 kq 0 := MAY.ge ((nI_leI (by omega) (by omega)).mp c_24_6285)
        have keyQ : ∀ (nQ kQ : Nat) (ma : Int32) (H : Heap) (locs : List Loc) (ls : Array Slot), kQ + nQ = kq → (MAY (CDB fnw kq k6) kP fe9 kQ kq ma) → va_PD G A [(h0, oX12 nw nk mhasKept nt mtaped nr mrowMany mroundOf mroundFrom 0 nm mfromHour mtoHour ns mfrom mto msort misFault mdeep mcoded mlines nl nc nF np ntr nb mbestCost nso nsi nit nsh nsf nss nrc mtraced mdealer mnumber mwhose msize misParted), (nw, iA G 1662 fnw), (nm, iA G 36 vP)] H → va_S A s.heap H locs → lv_has ls 6 [(5, .int (nI kQ)), (4, .int ma), (3, .int (nI kP)), (2, .int (nI fe9)), (1, .int (nI be9)), (0, .ref h0)] → W p l e (RM 6 0 0) s m ([.ref h0] : List Value).toArray below meth c H locs 0 0 Q0 (F0 m 37 ls []) := by
          intro nQ
          induction nQ with
          | zero =>
            intro kQ ma H locs ls hkQ hmy hPD hS hl
            refine Kan2 hPD (fun hP hD => ?_)
            obtain rfl : kq = kQ := by omega
            have hl : lv_has ls 6 [(5, .int (nI kq)), (4, .int ma), (3, .int (nI kP)), (2, .int (nI fe9)), (1, .int (nI be9)), (0, .ref h0)] := hl
            refine lv_iload hx hb gX12_doubt_2.2.2.2.2.1 (lv_at0 hl) ?_
            refine lv_aload_n hx hb gX12_doubt_2.2.2.2.2.2.1 rfl (lv_at5 hl) ?_
            refine gf_X12_9 hC rfl hK hP 0 rfl rfl gX12_doubt_2.2.2.2.2.2.2.1 ?_
            refine lv_iconst (v := 5) hx hb gX12_doubt_2.2.2.2.2.2.2.2.1 (by decide) ?_
            refine ald hC hK hP 1 rfl (vin (by decide +kernel)) (k := 5) (by decide +kernel) (v := nI kq) (ekq) gX12_doubt_2.2.2.2.2.2.2.2.2.1 ?_
            refine lv_icmp_ge (tgt := 93) hx hb gX12_doubt_2.2.2.2.2.2.2.2.2.2 (by decide) (fun _ => ?_) (fun c9 => absurd (Int32.le_refl _) c9)
            refine lv_iload hx hb gX12_doubt_5.1 (lv_at1 hl) ?_
            refine lv_if_eq (tgt := 122) hx hb gX12_doubt_5.2.1 (by decide) (fun c_95_6286 => ?_) (fun c_95_6286 => ?_)
            · refine lv_iinc (v := nI (kP + 1)) (lv' := [(3, .int (nI (kP + 1))), (5, .int (nI kq)), (4, .int ma), (2, .int (nI fe9)), (1, .int (nI be9)), (0, .ref h0)]) hx hb gX12_doubt_6.2.2.2.2.2.2.1 hl (k := 2) rfl (nI_1 _) (by decide) rfl (fun ls hl => ?_)
              refine lv_goto (tgt := 7) hx hb gX12_doubt_6.2.2.2.2.2.2.2.1 (by decide) ?_
              have hst9 : DBI (GDW (shf fnw 104) (VSE fnw kq) (fnw 3).toInt k6) (CDB fnw kq k6) (kP + 1) be9 fe9 := hdb.skip (fun h9 => hmy.no c_95_6286 ⟨h9.1, fun q9 h8 h7 => h9.2.1 q9 (by omega) h7⟩)
              exact ihP (kP + 1) vP be9 fe9 _ _ _ (by omega) (by first | assumption | exact Or.inl rfl | exact Or.inr rfl | omega | exact DBI.zero) (by first | assumption | exact Or.inl rfl | exact Or.inr rfl | omega | exact DBI.zero) (And.intro hP hD) hS (lv_sub hl [0, 3, 4, 5] rfl)
            · have hgt9 := hmy.get c_95_6286
              have hbs9 : BSU (CDB fnw kq k6) kP := BSU.of (n := kq) (by rw [← eN9]; omega) hgt9.2
              refine lv_aload_n hx hb gX12_doubt_5.2.2.1 rfl (lv_at5 hl) ?_
              refine lv_iload_n hx hb gX12_doubt_5.2.2.2.1 rfl (lv_at2 hl) ?_
              refine pf_X12_96 hC rfl hK hP hD hS 0 (ws' := [(h0, oX12 nw nk mhasKept nt mtaped nr mrowMany mroundOf mroundFrom (nI kP) nm mfromHour mtoHour ns mfrom mto msort misFault mdeep mcoded mlines nl nc nF np ntr nb mbestCost nso nsi nit nsh nsf nss nrc mtraced mdealer mnumber mwhose msize misParted), (nw, iA G 1662 fnw), (nm, iA G 36 vP)]) rfl (Nat.le_of_ble_eq_true rfl) rfl rfl rfl gX12_doubt_5.2.2.2.2.1 (fun H locs hP hD hS => ?_)
              refine lv_aload_n hx hb gX12_doubt_5.2.2.2.2.2.1 rfl (lv_at5 hl) ?_
              refine iV (wr := []) hC hK hl hP hD hS hA (m_findClocksO l G kq k6 h0 nw nk mhasKept nt mtaped nr mrowMany mroundOf mroundFrom kP nm mfromHour mtoHour ns mfrom mto msort misFault mdeep mcoded mlines nl nc nF np ntr nb mbestCost nso nsi nit nsh nsf nss nrc mtraced mdealer mnumber mwhose msize misParted fnw vP (hN) (hgp) (by omega) (ekq) (hkq) (e6) (hk6)) si_X12_148 [0, 1, 2] [] sm_0_1_2 fm_0_1_2 nd_0_1_2 rfl rfl (by decide) rfl rfl rfl rfl rfl (Nat.le_of_ble_eq_true rfl) rm_6_4_7 ⟨Nat.le_of_ble_eq_true rfl, Nat.le_of_ble_eq_true rfl⟩ gX12_doubt_5.2.2.2.2.2.2.1 (fun r6287 gnm6289 H locs hr6287 hP hD hS => ?_)
              try dsimp only at hr6287
              refine Kpdr (ws := [(h0, oX12 nw nk mhasKept nt mtaped nr mrowMany mroundOf mroundFrom (nI kP) nm mfromHour mtoHour ns mfrom mto msort misFault mdeep mcoded mlines nl nc nF np ntr nb mbestCost nso nsi nit nsh nsf nss nrc mtraced mdealer mnumber mwhose msize misParted), (nw, iA G 1662 fnw), (nm, iA G 36 gnm6289)]) hP hD (fun hP hD => ?_)
              obtain ⟨hr6287, w6290⟩ := hr6287
              rcases hr6287 with ⟨rfl, a6291⟩ | ⟨rfl, a6291⟩
              · refine lv_if_ne (tgt := 117) hx hb gX12_doubt_5.2.2.2.2.2.2.2.1 (by decide) (fun _ => ?_) (fun c9 => absurd c9 (by decide))
                refine lv_aload_n hx hb gX12_doubt_6.2.2.2.1 rfl (lv_at5 hl) ?_
                refine lv_iconst (v := 0) hx hb gX12_doubt_6.2.2.2.2.1 (by decide) ?_
                refine pf_X12_96 hC rfl hK hP hD hS 0 (ws' := [(h0, oX12 nw nk mhasKept nt mtaped nr mrowMany mroundOf mroundFrom 0 nm mfromHour mtoHour ns mfrom mto msort misFault mdeep mcoded mlines nl nc nF np ntr nb mbestCost nso nsi nit nsh nsf nss nrc mtraced mdealer mnumber mwhose msize misParted), (nw, iA G 1662 fnw), (nm, iA G 36 gnm6289)]) rfl (Nat.le_of_ble_eq_true rfl) rfl rfl rfl gX12_doubt_6.2.2.2.2.2.1 (fun H locs hP hD hS => ?_)
                refine lv_iinc (v := nI (kP + 1)) (lv' := [(3, .int (nI (kP + 1))), (5, .int (nI kq)), (4, .int ma), (2, .int (nI fe9)), (1, .int (nI be9)), (0, .ref h0)]) hx hb gX12_doubt_6.2.2.2.2.2.2.1 hl (k := 2) rfl (nI_1 _) (by decide) rfl (fun ls hl => ?_)
                refine lv_goto (tgt := 7) hx hb gX12_doubt_6.2.2.2.2.2.2.2.1 (by decide) ?_
                have hst9 : DBI (GDW (shf fnw 104) (VSE fnw kq) (fnw 3).toInt k6) (CDB fnw kq k6) (kP + 1) be9 fe9 := hdb.skip (fun h9 => h9.2.2 (by have h8 := a6291; rw [KWO.o] at h8; exact h8))
                exact ihP (kP + 1) gnm6289 be9 fe9 _ _ _ (by omega) (by first | assumption | exact Or.inl rfl | exact Or.inr rfl | omega | exact DBI.zero) (by first | assumption | exact Or.inl rfl | exact Or.inr rfl | omega | exact DBI.zero) (And.intro hP hD) hS (lv_sub hl [0, 3, 4, 5] rfl)
              · refine lv_if_ne (tgt := 117) hx hb gX12_doubt_5.2.2.2.2.2.2.2.1 (by decide) (fun c9 => absurd (by decide) c9) (fun _ => ?_)
                refine lv_iload_n hx hb gX12_doubt_5.2.2.2.2.2.2.2.2.1 rfl (lv_at2 hl) ?_
                refine lv_istore_n (lv' := [(1, .int (nI kP)), (5, .int (nI kq)), (4, .int ma), (3, .int (nI kP)), (2, .int (nI fe9)), (0, .ref h0)]) hx hb gX12_doubt_5.2.2.2.2.2.2.2.2.2 rfl hl (by decide) rfl (fun ls hl => ?_)
                refine lv_iload_n hx hb gX12_doubt_6.1 rfl (lv_at3 hl) ?_
                refine pS hC hK hl (m_bitsX l G (nI kP)) si_X12_110 rfl rfl (Nat.le_of_ble_eq_true rfl) rm_6_1_3 ⟨by first | exact Nat.le_of_ble_eq_true rfl | exact Nat.zero_le _, by first | exact Nat.le_of_ble_eq_true rfl | exact Nat.zero_le _⟩ gX12_doubt_6.2.1 (Keqr ?_)
                refine eqi (x1 := nI (PCN kP 12)) (bs_12 hkw9) ?_
                refine lv_istore_n (lv' := [(2, .int (nI (PCN kP 12))), (1, .int (nI kP)), (5, .int (nI kq)), (4, .int ma), (3, .int (nI kP)), (0, .ref h0)]) hx hb gX12_doubt_6.2.2.1 rfl hl (by decide) rfl (fun ls hl => ?_)
                refine lv_aload_n hx hb gX12_doubt_6.2.2.2.1 rfl (lv_at5 hl) ?_
                refine lv_iconst (v := 0) hx hb gX12_doubt_6.2.2.2.2.1 (by decide) ?_
                refine pf_X12_96 hC rfl hK hP hD hS 0 (ws' := [(h0, oX12 nw nk mhasKept nt mtaped nr mrowMany mroundOf mroundFrom 0 nm mfromHour mtoHour ns mfrom mto msort misFault mdeep mcoded mlines nl nc nF np ntr nb mbestCost nso nsi nit nsh nsf nss nrc mtraced mdealer mnumber mwhose msize misParted), (nw, iA G 1662 fnw), (nm, iA G 36 gnm6289)]) rfl (Nat.le_of_ble_eq_true rfl) rfl rfl rfl gX12_doubt_6.2.2.2.2.2.1 (fun H locs hP hD hS => ?_)
                refine lv_iinc (v := nI (kP + 1)) (lv' := [(3, .int (nI (kP + 1))), (2, .int (nI (PCN kP 12))), (1, .int (nI kP)), (5, .int (nI kq)), (4, .int ma), (0, .ref h0)]) hx hb gX12_doubt_6.2.2.2.2.2.2.1 hl (k := 4) rfl (nI_1 _) (by decide) rfl (fun ls hl => ?_)
                refine lv_goto (tgt := 7) hx hb gX12_doubt_6.2.2.2.2.2.2.2.1 (by decide) ?_
                have hst9 : DBI (GDW (shf fnw 104) (VSE fnw kq) (fnw 3).toInt k6) (CDB fnw kq k6) (kP + 1) kP (PCN kP 12) := hdb.take hgt9.1 hbs9 (by have h9 := a6291.nos; rw [KWO.o] at h9; exact h9)
                exact ihP (kP + 1) gnm6289 kP (PCN kP 12) _ _ _ (by omega) (by first | assumption | exact Or.inl rfl | exact Or.inr rfl | omega | exact DBI.zero) (by first | assumption | exact Or.inl rfl | exact Or.inr rfl | omega | exact DBI.zero) (And.intro hP hD) hS (lv_sub hl [0, 1, 2, 5] rfl)
          | succ nQ ihQ =>
            intro kQ ma H locs ls hkQ hmy hPD hS hl
            refine Kan2 hPD (fun hP hD => ?_)
            refine lv_iload hx hb gX12_doubt_2.2.2.2.2.1 (lv_at0 hl) ?_
            refine lv_aload_n hx hb gX12_doubt_2.2.2.2.2.2.1 rfl (lv_at5 hl) ?_
            refine gf_X12_9 hC rfl hK hP 0 rfl rfl gX12_doubt_2.2.2.2.2.2.2.1 ?_
            refine lv_iconst (v := 5) hx hb gX12_doubt_2.2.2.2.2.2.2.2.1 (by decide) ?_
            refine ald hC hK hP 1 rfl (vin (by decide +kernel)) (k := 5) (by decide +kernel) (v := nI kq) (ekq) gX12_doubt_2.2.2.2.2.2.2.2.2.1 ?_
            refine lv_icmp_ge (tgt := 93) hx hb gX12_doubt_2.2.2.2.2.2.2.2.2.2 (by decide) (fun c9 => absurd c9 (nI_ge (a := kQ) (b := kq) (by omega) (by omega))) (fun _ => ?_)
            refine lv_iload hx hb gX12_doubt_3.1 (lv_at1 hl) ?_
            refine lv_if_eq (tgt := 93) hx hb gX12_doubt_3.2.1 (by decide) (fun c_50_6294 => ?_) (fun c_50_6294 => ?_)
            · refine lv_iload hx hb gX12_doubt_5.1 (lv_at1 hl) ?_
              refine lv_if_eq (tgt := 122) hx hb gX12_doubt_5.2.1 (by decide) (fun _ => ?_) (fun c9 => absurd (c_50_6294) c9)
              refine lv_iinc (v := nI (kP + 1)) (lv' := [(3, .int (nI (kP + 1))), (5, .int (nI kQ)), (4, .int ma), (2, .int (nI fe9)), (1, .int (nI be9)), (0, .ref h0)]) hx hb gX12_doubt_6.2.2.2.2.2.2.1 hl (k := 2) rfl (nI_1 _) (by decide) rfl (fun ls hl => ?_)
              refine lv_goto (tgt := 7) hx hb gX12_doubt_6.2.2.2.2.2.2.2.1 (by decide) ?_
              have hst9 : DBI (GDW (shf fnw 104) (VSE fnw kq) (fnw 3).toInt k6) (CDB fnw kq k6) (kP + 1) be9 fe9 := hdb.skip (fun h9 => hmy.no c_50_6294 ⟨h9.1, fun q9 h8 h7 => h9.2.1 q9 (by omega) h7⟩)
              exact ihP (kP + 1) vP be9 fe9 _ _ _ (by omega) (by first | assumption | exact Or.inl rfl | exact Or.inr rfl | omega | exact DBI.zero) (by first | assumption | exact Or.inl rfl | exact Or.inr rfl | omega | exact DBI.zero) (And.intro hP hD) hS (lv_sub hl [0, 3, 4, 5] rfl)
            · refine lv_iload_n hx hb gX12_doubt_3.2.2.1 rfl (lv_at2 hl) ?_
              refine lv_iload hx hb gX12_doubt_3.2.2.2.1 (lv_at0 hl) ?_
              refine pS hC hK hl (m_has l G (nI kP) (nI kQ)) si_X12_99 rfl rfl (Nat.le_of_ble_eq_true rfl) rm_6_1_2 ⟨by first | exact Nat.le_of_ble_eq_true rfl | exact Nat.zero_le _, by first | exact Nat.le_of_ble_eq_true rfl | exact Nat.zero_le _⟩ gX12_doubt_3.2.2.2.2.1 (Kors (Keqa fun a6296 => ?_) (Keqa fun a6296 => ?_))
              · refine lv_if_eq (tgt := 80) hx hb gX12_doubt_3.2.2.2.2.2.1 (by decide) (fun c9 => absurd c9 (by decide)) (fun _ => ?_)
                refine lv_aload_n hx hb gX12_doubt_3.2.2.2.2.2.2.1 rfl (lv_at5 hl) ?_
                refine lv_iload hx hb gX12_doubt_3.2.2.2.2.2.2.2.1 (lv_at0 hl) ?_
                refine pV hC hK hl hP hD (m_isInX l G h0 kQ nw nk mhasKept nt mtaped nr mrowMany mroundOf mroundFrom nm mfromHour mtoHour ns mfrom mto msort misFault mdeep mcoded mlines nl nc nF np ntr nb mbestCost nso nsi nit nsh nsf nss nrc mtraced mdealer mnumber mwhose msize misParted fnw (by omega)) si_X12_103 [0, 1] sm_0_1 fm_0_1 nd_0_1 rfl rfl rfl rfl rfl (Nat.le_of_ble_eq_true rfl) rm_6_2_3 ⟨by first | exact Nat.le_of_ble_eq_true rfl | exact Nat.zero_le _, by first | exact Nat.le_of_ble_eq_true rfl | exact Nat.zero_le _⟩ gX12_doubt_3.2.2.2.2.2.2.2.2.1 (Kors (Keqa fun a6298 => ?_) (Keqa fun a6298 => ?_))
                · refine lv_if_eq (tgt := 84) hx hb gX12_doubt_3.2.2.2.2.2.2.2.2.2 (by decide) (fun c9 => absurd c9 (by decide)) (fun _ => ?_)
                  refine lv_aload_n hx hb gX12_doubt_4.1 rfl (lv_at5 hl) ?_
                  refine lv_iload hx hb gX12_doubt_4.2.1 (lv_at0 hl) ?_
                  refine pV hC hK hl hP hD (m_stampsOf l G k6 h0 (nI kQ) nw nk mhasKept nt mtaped nr mrowMany mroundOf mroundFrom 0 nm mfromHour mtoHour ns mfrom mto msort misFault mdeep mcoded mlines nl nc nF np ntr nb mbestCost nso nsi nit nsh nsf nss nrc mtraced mdealer mnumber mwhose msize misParted fnw (e6) (hk6)) si_X12_130 [0, 1] sm_0_1 fm_0_1 nd_0_1 rfl rfl rfl rfl rfl (Nat.le_of_ble_eq_true rfl) rm_6_2_4 ⟨by first | exact Nat.le_of_ble_eq_true rfl | exact Nat.zero_le _, by first | exact Nat.le_of_ble_eq_true rfl | exact Nat.zero_le _⟩ gX12_doubt_4.2.2.1 (Keqr ?_)
                  refine lv_if_le (tgt := 84) hx hb gX12_doubt_4.2.2.2.1 (by decide) (fun c_77_6301 => ?_) (fun c_77_6301 => ?_)
                  · refine lv_iconst (v := 0) hx hb gX12_doubt_4.2.2.2.2.2.2.1 (by decide) ?_
                    refine lv_istore (lv' := [(4, .int 0), (5, .int (nI kQ)), (3, .int (nI kP)), (2, .int (nI fe9)), (1, .int (nI be9)), (0, .ref h0)]) hx hb gX12_doubt_4.2.2.2.2.2.2.2.1 hl (by decide) rfl (fun ls hl => ?_)
                    refine lv_iinc (v := nI (kQ + 1)) (lv' := [(5, .int (nI (kQ + 1))), (4, .int 0), (3, .int (nI kP)), (2, .int (nI fe9)), (1, .int (nI be9)), (0, .ref h0)]) hx hb gX12_doubt_4.2.2.2.2.2.2.2.2.1 hl (k := 1) rfl (nI_1 _) (by decide) rfl (fun ls hl => ?_)
                    refine lv_goto (tgt := 37) hx hb gX12_doubt_4.2.2.2.2.2.2.2.2.2 (by decide) ?_
                    have hst9 : MAY (CDB fnw kq k6) kP fe9 (kQ + 1) kq 0 := MAY.n (by omega) ((tb_has hkw9 (by omega)).mp a6296) (fun h9 => by have h8 := (nI_leI (b := 0) (by have := cntS_le fnw (nI kQ) k6; omega) (by decide)).mp c_77_6301; have h7 := h9.2; omega)
                    exact ihQ (kQ + 1) 0 _ _ _ (by omega) (by first | assumption | exact Or.inl rfl | exact Or.inr rfl) (And.intro hP hD) hS (lv_sub hl [0, 1, 2, 3, 4, 5] rfl)
                  · refine lv_iconst (v := 1) hx hb gX12_doubt_4.2.2.2.2.1 (by decide) ?_
                    refine lv_goto (tgt := 85) hx hb gX12_doubt_4.2.2.2.2.2.1 (by decide) ?_
                    refine lv_istore (lv' := [(4, .int 1), (5, .int (nI kQ)), (3, .int (nI kP)), (2, .int (nI fe9)), (1, .int (nI be9)), (0, .ref h0)]) hx hb gX12_doubt_4.2.2.2.2.2.2.2.1 hl (by decide) rfl (fun ls hl => ?_)
                    refine lv_iinc (v := nI (kQ + 1)) (lv' := [(5, .int (nI (kQ + 1))), (4, .int 1), (3, .int (nI kP)), (2, .int (nI fe9)), (1, .int (nI be9)), (0, .ref h0)]) hx hb gX12_doubt_4.2.2.2.2.2.2.2.2.1 hl (k := 1) rfl (nI_1 _) (by decide) rfl (fun ls hl => ?_)
                    refine lv_goto (tgt := 37) hx hb gX12_doubt_4.2.2.2.2.2.2.2.2.2 (by decide) ?_
                    have hst9 : MAY (CDB fnw kq k6) kP fe9 (kQ + 1) kq 1 := hmy.y c_50_6294 (fun _ => ⟨⟨by omega, a6298⟩, Nat.pos_of_ne_zero (fun h9 => c_77_6301 (by rw [h9]; decide))⟩)
                    exact ihQ (kQ + 1) 1 _ _ _ (by omega) (by first | assumption | exact Or.inl rfl | exact Or.inr rfl) (And.intro hP hD) hS (lv_sub hl [0, 1, 2, 3, 4, 5] rfl)
                · refine lv_if_eq (tgt := 84) hx hb gX12_doubt_3.2.2.2.2.2.2.2.2.2 (by decide) (fun _ => ?_) (fun c9 => absurd (by decide) c9)
                  refine lv_iconst (v := 0) hx hb gX12_doubt_4.2.2.2.2.2.2.1 (by decide) ?_
                  refine lv_istore (lv' := [(4, .int 0), (5, .int (nI kQ)), (3, .int (nI kP)), (2, .int (nI fe9)), (1, .int (nI be9)), (0, .ref h0)]) hx hb gX12_doubt_4.2.2.2.2.2.2.2.1 hl (by decide) rfl (fun ls hl => ?_)
                  refine lv_iinc (v := nI (kQ + 1)) (lv' := [(5, .int (nI (kQ + 1))), (4, .int 0), (3, .int (nI kP)), (2, .int (nI fe9)), (1, .int (nI be9)), (0, .ref h0)]) hx hb gX12_doubt_4.2.2.2.2.2.2.2.2.1 hl (k := 1) rfl (nI_1 _) (by decide) rfl (fun ls hl => ?_)
                  refine lv_goto (tgt := 37) hx hb gX12_doubt_4.2.2.2.2.2.2.2.2.2 (by decide) ?_
                  have hst9 : MAY (CDB fnw kq k6) kP fe9 (kQ + 1) kq 0 := MAY.n (by omega) ((tb_has hkw9 (by omega)).mp a6296) (fun h9 => a6298 h9.1.2)
                  exact ihQ (kQ + 1) 0 _ _ _ (by omega) (by first | assumption | exact Or.inl rfl | exact Or.inr rfl) (And.intro hP hD) hS (lv_sub hl [0, 1, 2, 3, 4, 5] rfl)
              · refine lv_if_eq (tgt := 80) hx hb gX12_doubt_3.2.2.2.2.2.1 (by decide) (fun _ => ?_) (fun c9 => absurd (by decide) c9)
                refine lv_iconst (v := 1) hx hb gX12_doubt_4.2.2.2.2.1 (by decide) ?_
                refine lv_goto (tgt := 85) hx hb gX12_doubt_4.2.2.2.2.2.1 (by decide) ?_
                refine lv_istore (lv' := [(4, .int 1), (5, .int (nI kQ)), (3, .int (nI kP)), (2, .int (nI fe9)), (1, .int (nI be9)), (0, .ref h0)]) hx hb gX12_doubt_4.2.2.2.2.2.2.2.1 hl (by decide) rfl (fun ls hl => ?_)
                refine lv_iinc (v := nI (kQ + 1)) (lv' := [(5, .int (nI (kQ + 1))), (4, .int 1), (3, .int (nI kP)), (2, .int (nI fe9)), (1, .int (nI be9)), (0, .ref h0)]) hx hb gX12_doubt_4.2.2.2.2.2.2.2.2.1 hl (k := 1) rfl (nI_1 _) (by decide) rfl (fun ls hl => ?_)
                refine lv_goto (tgt := 37) hx hb gX12_doubt_4.2.2.2.2.2.2.2.2.2 (by decide) ?_
                have hst9 : MAY (CDB fnw kq k6) kP fe9 (kQ + 1) kq 1 := hmy.y c_50_6294 (fun h9 => absurd h9 (by rw [tb_no hkw9 (by omega) a6296]; decide))
                exact ihQ (kQ + 1) 1 _ _ _ (by omega) (by first | assumption | exact Or.inl rfl | exact Or.inr rfl) (And.intro hP hD) hS (lv_sub hl [0, 1, 2, 3, 4, 5] rfl)
        exact keyQ kq 0 0 _ _ _ (by omega) (by first | assumption | exact Or.inl rfl | exact Or.inr rfl) (And.intro hP hD) hS (lv_sub hl [0, 1, 2, 3, 4, 5] rfl)
      · refine lv_iconst (v := 1) hx hb gX12_doubt_1.2.2.2.2.2.2.2.2.1 (by decide) ?_
        refine lv_goto (tgt := 32) hx hb gX12_doubt_1.2.2.2.2.2.2.2.2.2 (by decide) ?_
        refine lv_istore (lv' := [(4, .int 1), (3, .int (nI kP)), (2, .int (nI fe9)), (1, .int (nI be9)), (0, .ref h0)]) hx hb gX12_doubt_2.2.1 hl (by decide) rfl (fun ls hl => ?_)
        refine lv_iconst (v := 0) hx hb gX12_doubt_2.2.2.1 (by decide) ?_
        refine lv_istore (lv' := [(5, .int 0), (4, .int 1), (3, .int (nI kP)), (2, .int (nI fe9)), (1, .int (nI be9)), (0, .ref h0)]) hx hb gX12_doubt_2.2.2.2.1 hl (by decide) rfl (fun ls hl => ?_)
        have hmy8 : MAY (CDB fnw kq k6) kP fe9 0 kq 1 := MAY.lt (Nat.lt_of_not_le (fun h8 => c_24_6285 ((nI_leI (a := fe9) (b := PCN kP 12) (by omega) (by omega)).mpr h8)))
        have keyQ : ∀ (nQ kQ : Nat) (ma : Int32) (H : Heap) (locs : List Loc) (ls : Array Slot), kQ + nQ = kq → (MAY (CDB fnw kq k6) kP fe9 kQ kq ma) → va_PD G A [(h0, oX12 nw nk mhasKept nt mtaped nr mrowMany mroundOf mroundFrom 0 nm mfromHour mtoHour ns mfrom mto msort misFault mdeep mcoded mlines nl nc nF np ntr nb mbestCost nso nsi nit nsh nsf nss nrc mtraced mdealer mnumber mwhose msize misParted), (nw, iA G 1662 fnw), (nm, iA G 36 vP)] H → va_S A s.heap H locs → lv_has ls 6 [(5, .int (nI kQ)), (4, .int ma), (3, .int (nI kP)), (2, .int (nI fe9)), (1, .int (nI be9)), (0, .ref h0)] → W p l e (RM 6 0 0) s m ([.ref h0] : List Value).toArray below meth c H locs 0 0 Q0 (F0 m 37 ls []) := by
          intro nQ
          induction nQ with
          | zero =>
            intro kQ ma H locs ls hkQ hmy hPD hS hl
            refine Kan2 hPD (fun hP hD => ?_)
            obtain rfl : kq = kQ := by omega
            have hl : lv_has ls 6 [(5, .int (nI kq)), (4, .int ma), (3, .int (nI kP)), (2, .int (nI fe9)), (1, .int (nI be9)), (0, .ref h0)] := hl
            refine lv_iload hx hb gX12_doubt_2.2.2.2.2.1 (lv_at0 hl) ?_
            refine lv_aload_n hx hb gX12_doubt_2.2.2.2.2.2.1 rfl (lv_at5 hl) ?_
            refine gf_X12_9 hC rfl hK hP 0 rfl rfl gX12_doubt_2.2.2.2.2.2.2.1 ?_
            refine lv_iconst (v := 5) hx hb gX12_doubt_2.2.2.2.2.2.2.2.1 (by decide) ?_
            refine ald hC hK hP 1 rfl (vin (by decide +kernel)) (k := 5) (by decide +kernel) (v := nI kq) (ekq) gX12_doubt_2.2.2.2.2.2.2.2.2.1 ?_
            refine lv_icmp_ge (tgt := 93) hx hb gX12_doubt_2.2.2.2.2.2.2.2.2.2 (by decide) (fun _ => ?_) (fun c9 => absurd (Int32.le_refl _) c9)
            refine lv_iload hx hb gX12_doubt_5.1 (lv_at1 hl) ?_
            refine lv_if_eq (tgt := 122) hx hb gX12_doubt_5.2.1 (by decide) (fun c_95_6302 => ?_) (fun c_95_6302 => ?_)
            · refine lv_iinc (v := nI (kP + 1)) (lv' := [(3, .int (nI (kP + 1))), (5, .int (nI kq)), (4, .int ma), (2, .int (nI fe9)), (1, .int (nI be9)), (0, .ref h0)]) hx hb gX12_doubt_6.2.2.2.2.2.2.1 hl (k := 2) rfl (nI_1 _) (by decide) rfl (fun ls hl => ?_)
              refine lv_goto (tgt := 7) hx hb gX12_doubt_6.2.2.2.2.2.2.2.1 (by decide) ?_
              have hst9 : DBI (GDW (shf fnw 104) (VSE fnw kq) (fnw 3).toInt k6) (CDB fnw kq k6) (kP + 1) be9 fe9 := hdb.skip (fun h9 => hmy.no c_95_6302 ⟨h9.1, fun q9 h8 h7 => h9.2.1 q9 (by omega) h7⟩)
              exact ihP (kP + 1) vP be9 fe9 _ _ _ (by omega) (by first | assumption | exact Or.inl rfl | exact Or.inr rfl | omega | exact DBI.zero) (by first | assumption | exact Or.inl rfl | exact Or.inr rfl | omega | exact DBI.zero) (And.intro hP hD) hS (lv_sub hl [0, 3, 4, 5] rfl)
            · have hgt9 := hmy.get c_95_6302
              have hbs9 : BSU (CDB fnw kq k6) kP := BSU.of (n := kq) (by rw [← eN9]; omega) hgt9.2
              refine lv_aload_n hx hb gX12_doubt_5.2.2.1 rfl (lv_at5 hl) ?_
              refine lv_iload_n hx hb gX12_doubt_5.2.2.2.1 rfl (lv_at2 hl) ?_
              refine pf_X12_96 hC rfl hK hP hD hS 0 (ws' := [(h0, oX12 nw nk mhasKept nt mtaped nr mrowMany mroundOf mroundFrom (nI kP) nm mfromHour mtoHour ns mfrom mto msort misFault mdeep mcoded mlines nl nc nF np ntr nb mbestCost nso nsi nit nsh nsf nss nrc mtraced mdealer mnumber mwhose msize misParted), (nw, iA G 1662 fnw), (nm, iA G 36 vP)]) rfl (Nat.le_of_ble_eq_true rfl) rfl rfl rfl gX12_doubt_5.2.2.2.2.1 (fun H locs hP hD hS => ?_)
              refine lv_aload_n hx hb gX12_doubt_5.2.2.2.2.2.1 rfl (lv_at5 hl) ?_
              refine iV (wr := []) hC hK hl hP hD hS hA (m_findClocksO l G kq k6 h0 nw nk mhasKept nt mtaped nr mrowMany mroundOf mroundFrom kP nm mfromHour mtoHour ns mfrom mto msort misFault mdeep mcoded mlines nl nc nF np ntr nb mbestCost nso nsi nit nsh nsf nss nrc mtraced mdealer mnumber mwhose msize misParted fnw vP (hN) (hgp) (by omega) (ekq) (hkq) (e6) (hk6)) si_X12_148 [0, 1, 2] [] sm_0_1_2 fm_0_1_2 nd_0_1_2 rfl rfl (by decide) rfl rfl rfl rfl rfl (Nat.le_of_ble_eq_true rfl) rm_6_4_7 ⟨Nat.le_of_ble_eq_true rfl, Nat.le_of_ble_eq_true rfl⟩ gX12_doubt_5.2.2.2.2.2.2.1 (fun r6303 gnm6305 H locs hr6303 hP hD hS => ?_)
              try dsimp only at hr6303
              refine Kpdr (ws := [(h0, oX12 nw nk mhasKept nt mtaped nr mrowMany mroundOf mroundFrom (nI kP) nm mfromHour mtoHour ns mfrom mto msort misFault mdeep mcoded mlines nl nc nF np ntr nb mbestCost nso nsi nit nsh nsf nss nrc mtraced mdealer mnumber mwhose msize misParted), (nw, iA G 1662 fnw), (nm, iA G 36 gnm6305)]) hP hD (fun hP hD => ?_)
              obtain ⟨hr6303, w6306⟩ := hr6303
              rcases hr6303 with ⟨rfl, a6307⟩ | ⟨rfl, a6307⟩
              · refine lv_if_ne (tgt := 117) hx hb gX12_doubt_5.2.2.2.2.2.2.2.1 (by decide) (fun _ => ?_) (fun c9 => absurd c9 (by decide))
                refine lv_aload_n hx hb gX12_doubt_6.2.2.2.1 rfl (lv_at5 hl) ?_
                refine lv_iconst (v := 0) hx hb gX12_doubt_6.2.2.2.2.1 (by decide) ?_
                refine pf_X12_96 hC rfl hK hP hD hS 0 (ws' := [(h0, oX12 nw nk mhasKept nt mtaped nr mrowMany mroundOf mroundFrom 0 nm mfromHour mtoHour ns mfrom mto msort misFault mdeep mcoded mlines nl nc nF np ntr nb mbestCost nso nsi nit nsh nsf nss nrc mtraced mdealer mnumber mwhose msize misParted), (nw, iA G 1662 fnw), (nm, iA G 36 gnm6305)]) rfl (Nat.le_of_ble_eq_true rfl) rfl rfl rfl gX12_doubt_6.2.2.2.2.2.1 (fun H locs hP hD hS => ?_)
                refine lv_iinc (v := nI (kP + 1)) (lv' := [(3, .int (nI (kP + 1))), (5, .int (nI kq)), (4, .int ma), (2, .int (nI fe9)), (1, .int (nI be9)), (0, .ref h0)]) hx hb gX12_doubt_6.2.2.2.2.2.2.1 hl (k := 2) rfl (nI_1 _) (by decide) rfl (fun ls hl => ?_)
                refine lv_goto (tgt := 7) hx hb gX12_doubt_6.2.2.2.2.2.2.2.1 (by decide) ?_
                have hst9 : DBI (GDW (shf fnw 104) (VSE fnw kq) (fnw 3).toInt k6) (CDB fnw kq k6) (kP + 1) be9 fe9 := hdb.skip (fun h9 => h9.2.2 (by have h8 := a6307; rw [KWO.o] at h8; exact h8))
                exact ihP (kP + 1) gnm6305 be9 fe9 _ _ _ (by omega) (by first | assumption | exact Or.inl rfl | exact Or.inr rfl | omega | exact DBI.zero) (by first | assumption | exact Or.inl rfl | exact Or.inr rfl | omega | exact DBI.zero) (And.intro hP hD) hS (lv_sub hl [0, 3, 4, 5] rfl)
              · refine lv_if_ne (tgt := 117) hx hb gX12_doubt_5.2.2.2.2.2.2.2.1 (by decide) (fun c9 => absurd (by decide) c9) (fun _ => ?_)
                refine lv_iload_n hx hb gX12_doubt_5.2.2.2.2.2.2.2.2.1 rfl (lv_at2 hl) ?_
                refine lv_istore_n (lv' := [(1, .int (nI kP)), (5, .int (nI kq)), (4, .int ma), (3, .int (nI kP)), (2, .int (nI fe9)), (0, .ref h0)]) hx hb gX12_doubt_5.2.2.2.2.2.2.2.2.2 rfl hl (by decide) rfl (fun ls hl => ?_)
                refine lv_iload_n hx hb gX12_doubt_6.1 rfl (lv_at3 hl) ?_
                refine pS hC hK hl (m_bitsX l G (nI kP)) si_X12_110 rfl rfl (Nat.le_of_ble_eq_true rfl) rm_6_1_3 ⟨by first | exact Nat.le_of_ble_eq_true rfl | exact Nat.zero_le _, by first | exact Nat.le_of_ble_eq_true rfl | exact Nat.zero_le _⟩ gX12_doubt_6.2.1 (Keqr ?_)
                refine eqi (x1 := nI (PCN kP 12)) (bs_12 hkw9) ?_
                refine lv_istore_n (lv' := [(2, .int (nI (PCN kP 12))), (1, .int (nI kP)), (5, .int (nI kq)), (4, .int ma), (3, .int (nI kP)), (0, .ref h0)]) hx hb gX12_doubt_6.2.2.1 rfl hl (by decide) rfl (fun ls hl => ?_)
                refine lv_aload_n hx hb gX12_doubt_6.2.2.2.1 rfl (lv_at5 hl) ?_
                refine lv_iconst (v := 0) hx hb gX12_doubt_6.2.2.2.2.1 (by decide) ?_
                refine pf_X12_96 hC rfl hK hP hD hS 0 (ws' := [(h0, oX12 nw nk mhasKept nt mtaped nr mrowMany mroundOf mroundFrom 0 nm mfromHour mtoHour ns mfrom mto msort misFault mdeep mcoded mlines nl nc nF np ntr nb mbestCost nso nsi nit nsh nsf nss nrc mtraced mdealer mnumber mwhose msize misParted), (nw, iA G 1662 fnw), (nm, iA G 36 gnm6305)]) rfl (Nat.le_of_ble_eq_true rfl) rfl rfl rfl gX12_doubt_6.2.2.2.2.2.1 (fun H locs hP hD hS => ?_)
                refine lv_iinc (v := nI (kP + 1)) (lv' := [(3, .int (nI (kP + 1))), (2, .int (nI (PCN kP 12))), (1, .int (nI kP)), (5, .int (nI kq)), (4, .int ma), (0, .ref h0)]) hx hb gX12_doubt_6.2.2.2.2.2.2.1 hl (k := 4) rfl (nI_1 _) (by decide) rfl (fun ls hl => ?_)
                refine lv_goto (tgt := 7) hx hb gX12_doubt_6.2.2.2.2.2.2.2.1 (by decide) ?_
                have hst9 : DBI (GDW (shf fnw 104) (VSE fnw kq) (fnw 3).toInt k6) (CDB fnw kq k6) (kP + 1) kP (PCN kP 12) := hdb.take hgt9.1 hbs9 (by have h9 := a6307.nos; rw [KWO.o] at h9; exact h9)
                exact ihP (kP + 1) gnm6305 kP (PCN kP 12) _ _ _ (by omega) (by first | assumption | exact Or.inl rfl | exact Or.inr rfl | omega | exact DBI.zero) (by first | assumption | exact Or.inl rfl | exact Or.inr rfl | omega | exact DBI.zero) (And.intro hP hD) hS (lv_sub hl [0, 1, 2, 5] rfl)
          | succ nQ ihQ =>
            intro kQ ma H locs ls hkQ hmy hPD hS hl
            refine Kan2 hPD (fun hP hD => ?_)
            refine lv_iload hx hb gX12_doubt_2.2.2.2.2.1 (lv_at0 hl) ?_
            refine lv_aload_n hx hb gX12_doubt_2.2.2.2.2.2.1 rfl (lv_at5 hl) ?_
            refine gf_X12_9 hC rfl hK hP 0 rfl rfl gX12_doubt_2.2.2.2.2.2.2.1 ?_
            refine lv_iconst (v := 5) hx hb gX12_doubt_2.2.2.2.2.2.2.2.1 (by decide) ?_
            refine ald hC hK hP 1 rfl (vin (by decide +kernel)) (k := 5) (by decide +kernel) (v := nI kq) (ekq) gX12_doubt_2.2.2.2.2.2.2.2.2.1 ?_
            refine lv_icmp_ge (tgt := 93) hx hb gX12_doubt_2.2.2.2.2.2.2.2.2.2 (by decide) (fun c9 => absurd c9 (nI_ge (a := kQ) (b := kq) (by omega) (by omega))) (fun _ => ?_)
            refine lv_iload hx hb gX12_doubt_3.1 (lv_at1 hl) ?_
            refine lv_if_eq (tgt := 93) hx hb gX12_doubt_3.2.1 (by decide) (fun c_50_6310 => ?_) (fun c_50_6310 => ?_)
            · refine lv_iload hx hb gX12_doubt_5.1 (lv_at1 hl) ?_
              refine lv_if_eq (tgt := 122) hx hb gX12_doubt_5.2.1 (by decide) (fun _ => ?_) (fun c9 => absurd (c_50_6310) c9)
              refine lv_iinc (v := nI (kP + 1)) (lv' := [(3, .int (nI (kP + 1))), (5, .int (nI kQ)), (4, .int ma), (2, .int (nI fe9)), (1, .int (nI be9)), (0, .ref h0)]) hx hb gX12_doubt_6.2.2.2.2.2.2.1 hl (k := 2) rfl (nI_1 _) (by decide) rfl (fun ls hl => ?_)
              refine lv_goto (tgt := 7) hx hb gX12_doubt_6.2.2.2.2.2.2.2.1 (by decide) ?_
              have hst9 : DBI (GDW (shf fnw 104) (VSE fnw kq) (fnw 3).toInt k6) (CDB fnw kq k6) (kP + 1) be9 fe9 := hdb.skip (fun h9 => hmy.no c_50_6310 ⟨h9.1, fun q9 h8 h7 => h9.2.1 q9 (by omega) h7⟩)
              exact ihP (kP + 1) vP be9 fe9 _ _ _ (by omega) (by first | assumption | exact Or.inl rfl | exact Or.inr rfl | omega | exact DBI.zero) (by first | assumption | exact Or.inl rfl | exact Or.inr rfl | omega | exact DBI.zero) (And.intro hP hD) hS (lv_sub hl [0, 3, 4, 5] rfl)
            · refine lv_iload_n hx hb gX12_doubt_3.2.2.1 rfl (lv_at2 hl) ?_
              refine lv_iload hx hb gX12_doubt_3.2.2.2.1 (lv_at0 hl) ?_
              refine pS hC hK hl (m_has l G (nI kP) (nI kQ)) si_X12_99 rfl rfl (Nat.le_of_ble_eq_true rfl) rm_6_1_2 ⟨by first | exact Nat.le_of_ble_eq_true rfl | exact Nat.zero_le _, by first | exact Nat.le_of_ble_eq_true rfl | exact Nat.zero_le _⟩ gX12_doubt_3.2.2.2.2.1 (Kors (Keqa fun a6312 => ?_) (Keqa fun a6312 => ?_))
              · refine lv_if_eq (tgt := 80) hx hb gX12_doubt_3.2.2.2.2.2.1 (by decide) (fun c9 => absurd c9 (by decide)) (fun _ => ?_)
                refine lv_aload_n hx hb gX12_doubt_3.2.2.2.2.2.2.1 rfl (lv_at5 hl) ?_
                refine lv_iload hx hb gX12_doubt_3.2.2.2.2.2.2.2.1 (lv_at0 hl) ?_
                refine pV hC hK hl hP hD (m_isInX l G h0 kQ nw nk mhasKept nt mtaped nr mrowMany mroundOf mroundFrom nm mfromHour mtoHour ns mfrom mto msort misFault mdeep mcoded mlines nl nc nF np ntr nb mbestCost nso nsi nit nsh nsf nss nrc mtraced mdealer mnumber mwhose msize misParted fnw (by omega)) si_X12_103 [0, 1] sm_0_1 fm_0_1 nd_0_1 rfl rfl rfl rfl rfl (Nat.le_of_ble_eq_true rfl) rm_6_2_3 ⟨by first | exact Nat.le_of_ble_eq_true rfl | exact Nat.zero_le _, by first | exact Nat.le_of_ble_eq_true rfl | exact Nat.zero_le _⟩ gX12_doubt_3.2.2.2.2.2.2.2.2.1 (Kors (Keqa fun a6314 => ?_) (Keqa fun a6314 => ?_))
                · refine lv_if_eq (tgt := 84) hx hb gX12_doubt_3.2.2.2.2.2.2.2.2.2 (by decide) (fun c9 => absurd c9 (by decide)) (fun _ => ?_)
                  refine lv_aload_n hx hb gX12_doubt_4.1 rfl (lv_at5 hl) ?_
                  refine lv_iload hx hb gX12_doubt_4.2.1 (lv_at0 hl) ?_
                  refine pV hC hK hl hP hD (m_stampsOf l G k6 h0 (nI kQ) nw nk mhasKept nt mtaped nr mrowMany mroundOf mroundFrom 0 nm mfromHour mtoHour ns mfrom mto msort misFault mdeep mcoded mlines nl nc nF np ntr nb mbestCost nso nsi nit nsh nsf nss nrc mtraced mdealer mnumber mwhose msize misParted fnw (e6) (hk6)) si_X12_130 [0, 1] sm_0_1 fm_0_1 nd_0_1 rfl rfl rfl rfl rfl (Nat.le_of_ble_eq_true rfl) rm_6_2_4 ⟨by first | exact Nat.le_of_ble_eq_true rfl | exact Nat.zero_le _, by first | exact Nat.le_of_ble_eq_true rfl | exact Nat.zero_le _⟩ gX12_doubt_4.2.2.1 (Keqr ?_)
                  refine lv_if_le (tgt := 84) hx hb gX12_doubt_4.2.2.2.1 (by decide) (fun c_77_6317 => ?_) (fun c_77_6317 => ?_)
                  · refine lv_iconst (v := 0) hx hb gX12_doubt_4.2.2.2.2.2.2.1 (by decide) ?_
                    refine lv_istore (lv' := [(4, .int 0), (5, .int (nI kQ)), (3, .int (nI kP)), (2, .int (nI fe9)), (1, .int (nI be9)), (0, .ref h0)]) hx hb gX12_doubt_4.2.2.2.2.2.2.2.1 hl (by decide) rfl (fun ls hl => ?_)
                    refine lv_iinc (v := nI (kQ + 1)) (lv' := [(5, .int (nI (kQ + 1))), (4, .int 0), (3, .int (nI kP)), (2, .int (nI fe9)), (1, .int (nI be9)), (0, .ref h0)]) hx hb gX12_doubt_4.2.2.2.2.2.2.2.2.1 hl (k := 1) rfl (nI_1 _) (by decide) rfl (fun ls hl => ?_)
                    refine lv_goto (tgt := 37) hx hb gX12_doubt_4.2.2.2.2.2.2.2.2.2 (by decide) ?_
                    have hst9 : MAY (CDB fnw kq k6) kP fe9 (kQ + 1) kq 0 := MAY.n (by omega) ((tb_has hkw9 (by omega)).mp a6312) (fun h9 => by have h8 := (nI_leI (b := 0) (by have := cntS_le fnw (nI kQ) k6; omega) (by decide)).mp c_77_6317; have h7 := h9.2; omega)
                    exact ihQ (kQ + 1) 0 _ _ _ (by omega) (by first | assumption | exact Or.inl rfl | exact Or.inr rfl) (And.intro hP hD) hS (lv_sub hl [0, 1, 2, 3, 4, 5] rfl)
                  · refine lv_iconst (v := 1) hx hb gX12_doubt_4.2.2.2.2.1 (by decide) ?_
                    refine lv_goto (tgt := 85) hx hb gX12_doubt_4.2.2.2.2.2.1 (by decide) ?_
                    refine lv_istore (lv' := [(4, .int 1), (5, .int (nI kQ)), (3, .int (nI kP)), (2, .int (nI fe9)), (1, .int (nI be9)), (0, .ref h0)]) hx hb gX12_doubt_4.2.2.2.2.2.2.2.1 hl (by decide) rfl (fun ls hl => ?_)
                    refine lv_iinc (v := nI (kQ + 1)) (lv' := [(5, .int (nI (kQ + 1))), (4, .int 1), (3, .int (nI kP)), (2, .int (nI fe9)), (1, .int (nI be9)), (0, .ref h0)]) hx hb gX12_doubt_4.2.2.2.2.2.2.2.2.1 hl (k := 1) rfl (nI_1 _) (by decide) rfl (fun ls hl => ?_)
                    refine lv_goto (tgt := 37) hx hb gX12_doubt_4.2.2.2.2.2.2.2.2.2 (by decide) ?_
                    have hst9 : MAY (CDB fnw kq k6) kP fe9 (kQ + 1) kq 1 := hmy.y c_50_6310 (fun _ => ⟨⟨by omega, a6314⟩, Nat.pos_of_ne_zero (fun h9 => c_77_6317 (by rw [h9]; decide))⟩)
                    exact ihQ (kQ + 1) 1 _ _ _ (by omega) (by first | assumption | exact Or.inl rfl | exact Or.inr rfl) (And.intro hP hD) hS (lv_sub hl [0, 1, 2, 3, 4, 5] rfl)
                · refine lv_if_eq (tgt := 84) hx hb gX12_doubt_3.2.2.2.2.2.2.2.2.2 (by decide) (fun _ => ?_) (fun c9 => absurd (by decide) c9)
                  refine lv_iconst (v := 0) hx hb gX12_doubt_4.2.2.2.2.2.2.1 (by decide) ?_
                  refine lv_istore (lv' := [(4, .int 0), (5, .int (nI kQ)), (3, .int (nI kP)), (2, .int (nI fe9)), (1, .int (nI be9)), (0, .ref h0)]) hx hb gX12_doubt_4.2.2.2.2.2.2.2.1 hl (by decide) rfl (fun ls hl => ?_)
                  refine lv_iinc (v := nI (kQ + 1)) (lv' := [(5, .int (nI (kQ + 1))), (4, .int 0), (3, .int (nI kP)), (2, .int (nI fe9)), (1, .int (nI be9)), (0, .ref h0)]) hx hb gX12_doubt_4.2.2.2.2.2.2.2.2.1 hl (k := 1) rfl (nI_1 _) (by decide) rfl (fun ls hl => ?_)
                  refine lv_goto (tgt := 37) hx hb gX12_doubt_4.2.2.2.2.2.2.2.2.2 (by decide) ?_
                  have hst9 : MAY (CDB fnw kq k6) kP fe9 (kQ + 1) kq 0 := MAY.n (by omega) ((tb_has hkw9 (by omega)).mp a6312) (fun h9 => a6314 h9.1.2)
                  exact ihQ (kQ + 1) 0 _ _ _ (by omega) (by first | assumption | exact Or.inl rfl | exact Or.inr rfl) (And.intro hP hD) hS (lv_sub hl [0, 1, 2, 3, 4, 5] rfl)
              · refine lv_if_eq (tgt := 80) hx hb gX12_doubt_3.2.2.2.2.2.1 (by decide) (fun _ => ?_) (fun c9 => absurd (by decide) c9)
                refine lv_iconst (v := 1) hx hb gX12_doubt_4.2.2.2.2.1 (by decide) ?_
                refine lv_goto (tgt := 85) hx hb gX12_doubt_4.2.2.2.2.2.1 (by decide) ?_
                refine lv_istore (lv' := [(4, .int 1), (5, .int (nI kQ)), (3, .int (nI kP)), (2, .int (nI fe9)), (1, .int (nI be9)), (0, .ref h0)]) hx hb gX12_doubt_4.2.2.2.2.2.2.2.1 hl (by decide) rfl (fun ls hl => ?_)
                refine lv_iinc (v := nI (kQ + 1)) (lv' := [(5, .int (nI (kQ + 1))), (4, .int 1), (3, .int (nI kP)), (2, .int (nI fe9)), (1, .int (nI be9)), (0, .ref h0)]) hx hb gX12_doubt_4.2.2.2.2.2.2.2.2.1 hl (k := 1) rfl (nI_1 _) (by decide) rfl (fun ls hl => ?_)
                refine lv_goto (tgt := 37) hx hb gX12_doubt_4.2.2.2.2.2.2.2.2.2 (by decide) ?_
                have hst9 : MAY (CDB fnw kq k6) kP fe9 (kQ + 1) kq 1 := hmy.y c_50_6310 (fun h9 => absurd h9 (by rw [tb_no hkw9 (by omega) a6312]; decide))
                exact ihQ (kQ + 1) 1 _ _ _ (by omega) (by first | assumption | exact Or.inl rfl | exact Or.inr rfl) (And.intro hP hD) hS (lv_sub hl [0, 1, 2, 3, 4, 5] rfl)
        exact keyQ kq 0 1 _ _ _ (by omega) (by first | assumption | exact Or.inl rfl | exact Or.inr rfl) (And.intro hP hD) hS (lv_sub hl [0, 1, 2, 3, 4, 5] rfl)
  exact keyP N9 0 fnm 0 13 _ _ _ (by omega) (by first | assumption | exact Or.inl rfl | exact Or.inr rfl | omega | exact DBI.zero) (by first | assumption | exact Or.inl rfl | exact Or.inr rfl | omega | exact DBI.zero) (And.intro hP hD) hS (lv_sub hl [0, 1, 2, 3] rfl)
def K_r_clash (l : Launch) (G : GG) (kq : Nat) (k6 : Nat) (h0 : Nat) (x1 : Int32) (nw : Nat) (nk : Nat) (mhasKept : Int32) (nt : Nat) (mtaped : Int32) (nr : Nat) (mrowMany : Int32) (mroundOf : Int32) (mroundFrom : Int32) (nm : Nat) (mfromHour : Int32) (mtoHour : Int32) (ns : Nat) (mfrom : Int32) (mto : Int32) (msort : Int32) (misFault : Int32) (mdeep : Int32) (mcoded : Int32) (mlines : Int32) (nl : Nat) (nc : Nat) (nF : Nat) (np : Nat) (ntr : Nat) (nb : Nat) (mbestCost : Int32) (nso : Nat) (nsi : Nat) (nit : Nat) (nsh : Nat) (nsf : Nat) (nss : Nat) (nrc : Nat) (mtraced : Int32) (mdealer : Int32) (mnumber : Int32) (mwhose : Int32) (msize : Int32) (misParted : Int32) (fnw : Nat → Int32) (fnm : Nat → Int32) : Prop := MI l G yX12_clash cX12_clash 2 (some .int) 8 0 0 [.ref h0, .int x1] [(h0, oX12 nw nk mhasKept nt mtaped nr mrowMany mroundOf mroundFrom 0 nm mfromHour mtoHour ns mfrom mto msort misFault mdeep mcoded mlines nl nc nF np ntr nb mbestCost nso nsi nit nsh nsf nss nrc mtraced mdealer mnumber mwhose msize misParted), (nw, iA G 1662 fnw), (nm, iA G 36 fnm)] (fun (r : Int32) (u : (Nat → Int32)) => (∃ s9, (CLQ (KST (shf fnw 104) (VSE fnw kq) (fnw 3).toInt k6) (DBQ (shf fnw 104) (VSE fnw kq) (CDB fnw kq k6) (fnw 3).toInt k6) x1 s9) ∧ r = s9) ∧ (MB u)) (fun u : (Nat → Int32) => [(h0, oX12 nw nk mhasKept nt mtaped nr mrowMany mroundOf mroundFrom 0 nm mfromHour mtoHour ns mfrom mto msort misFault mdeep mcoded mlines nl nc nF np ntr nb mbestCost nso nsi nit nsh nsf nss nrc mtraced mdealer mnumber mwhose msize misParted), (nw, iA G 1662 fnw), (nm, iA G 36 u)])
set_option maxHeartbeats 4000000 in
set_option maxRecDepth 100000 in
theorem r_clash (l : Launch) (G : GG) (kq : Nat) (k6 : Nat) (h0 : Nat) (x1 : Int32) (nw : Nat) (nk : Nat) (mhasKept : Int32) (nt : Nat) (mtaped : Int32) (nr : Nat) (mrowMany : Int32) (mroundOf : Int32) (mroundFrom : Int32) (nm : Nat) (mfromHour : Int32) (mtoHour : Int32) (ns : Nat) (mfrom : Int32) (mto : Int32) (msort : Int32) (misFault : Int32) (mdeep : Int32) (mcoded : Int32) (mlines : Int32) (nl : Nat) (nc : Nat) (nF : Nat) (np : Nat) (ntr : Nat) (nb : Nat) (mbestCost : Int32) (nso : Nat) (nsi : Nat) (nit : Nat) (nsh : Nat) (nsf : Nat) (nss : Nat) (nrc : Nat) (mtraced : Int32) (mdealer : Int32) (mnumber : Int32) (mwhose : Int32) (msize : Int32) (misParted : Int32) (fnw : Nat → Int32) (fnm : Nat → Int32) (hM : MB fnm) (hN : NI fnw) (hgp : GPRm (fnw 3)) (ekq : fnw 5 = nI kq) (hkq : kq ≤ 12) (e6 : fnw 6 = nI k6) (hk6 : k6 ≤ 24) : K_r_clash l G kq k6 h0 x1 nw nk mhasKept nt mtaped nr mrowMany mroundOf mroundFrom nm mfromHour mtoHour ns mfrom mto msort misFault mdeep mcoded mlines nl nc nF np ntr nb mbestCost nso nsi nit nsh nsf nss nrc mtraced mdealer mnumber mwhose msize misParted fnw fnm := by
  refine MI.start (by decide +kernel) (Nat.le_of_ble_eq_true rfl) ?_
  intro p e s m below meth c A ls hC hK hP hD hS hA hl
  refine absQ (fun Q0 hQ0 => ?_)
  have hl : lv_has ls 2 [(0, .ref h0), (1, .int x1)] := hl
  refine Kan8 hC (fun hx hb hr hml hB hown hlocks hnm => ?_)
  refine lv_iload_n hx hb gX12_clash_0.1 rfl (lv_at1 hl) ?_
  refine lv_iconst (v := 0) hx hb gX12_clash_0.2.1 (by decide) ?_
  refine lv_iconst (v := 1) hx hb gX12_clash_0.2.2.1 (by decide) ?_
  refine pS hC hK hl (m_within l G x1 0 1) si_X12_84 rfl rfl (Nat.le_of_ble_eq_true rfl) rm_8_1_3 ⟨by first | exact Nat.le_of_ble_eq_true rfl | exact Nat.zero_le _, by first | exact Nat.le_of_ble_eq_true rfl | exact Nat.zero_le _⟩ gX12_clash_0.2.2.2.1 (Kors (Keqa fun a6319 => ?_) (Keqa fun a6319 => ?_))
  · refine lv_if_ne (tgt := 11) hx hb gX12_clash_0.2.2.2.2.1 (by decide) (fun _ => ?_) (fun c9 => absurd c9 (by decide))
    refine lv_iload_n hx hb gX12_clash_0.2.2.2.2.2.2.2.1 rfl (lv_at1 hl) ?_
    refine lv_iconst (v := 1) hx hb gX12_clash_0.2.2.2.2.2.2.2.2.1 (by decide) ?_
    refine lv_icmp_ne (tgt := 23) hx hb gX12_clash_0.2.2.2.2.2.2.2.2.2 (by decide) (fun c_13_6320 => ?_) (fun c_13_6320 => ?_)
    · refine lv_aload_n hx hb gX12_clash_1.2.2.2.1 rfl (lv_at0 hl) ?_
      refine iV (wr := []) hC hK hl hP hD hS hA (m_findClocksX l G kq k6 h0 nw nk mhasKept nt mtaped nr mrowMany mroundOf mroundFrom nm mfromHour mtoHour ns mfrom mto msort misFault mdeep mcoded mlines nl nc nF np ntr nb mbestCost nso nsi nit nsh nsf nss nrc mtraced mdealer mnumber mwhose msize misParted fnw fnm (hN) (hgp) (ekq) (hkq) (e6) (hk6)) si_X12_148 [0, 1, 2] [] sm_0_1_2 fm_0_1_2 nd_0_1_2 rfl rfl (by decide) rfl rfl rfl rfl rfl (Nat.le_of_ble_eq_true rfl) rm_8_4_7 ⟨Nat.le_of_ble_eq_true rfl, Nat.le_of_ble_eq_true rfl⟩ gX12_clash_1.2.2.2.2.1 (fun r6321 gnm6323 H locs hr6321 hP hD hS => ?_)
      try dsimp only at hr6321
      refine Kpdr (ws := [(h0, oX12 nw nk mhasKept nt mtaped nr mrowMany mroundOf mroundFrom 0 nm mfromHour mtoHour ns mfrom mto msort misFault mdeep mcoded mlines nl nc nF np ntr nb mbestCost nso nsi nit nsh nsf nss nrc mtraced mdealer mnumber mwhose msize misParted), (nw, iA G 1662 fnw), (nm, iA G 36 gnm6323)]) hP hD (fun hP hD => ?_)
      obtain ⟨hr6321, w6324⟩ := hr6321
      rcases hr6321 with ⟨rfl, a6325⟩ | ⟨rfl, a6325⟩
      · refine lv_if_eq (tgt := 34) hx hb gX12_clash_1.2.2.2.2.2.1 (by decide) (fun c9 => absurd c9 (by decide)) (fun _ => ?_)
        refine lv_iconst (v := 1) hx hb gX12_clash_1.2.2.2.2.2.2.1 (by decide) ?_
        refine lv_goto (tgt := 35) hx hb gX12_clash_1.2.2.2.2.2.2.2.1 (by decide) ?_
        refine toQ hQ0 ?_
        exact RI (v := 1) hC hP hD hS [0, 1, 2] gnm6323 rfl rfl (by decide) (⟨⟨1, Or.inr (Or.inl ⟨a6319, c_13_6320, Or.inl ⟨a6325, rfl⟩⟩), rfl⟩, by first | assumption | exact hM⟩) rfl gX12_clash_1.2.2.2.2.2.2.2.2.2
      · refine lv_if_eq (tgt := 34) hx hb gX12_clash_1.2.2.2.2.2.1 (by decide) (fun _ => ?_) (fun c9 => absurd (by decide) c9)
        refine lv_iconst (v := 0) hx hb gX12_clash_1.2.2.2.2.2.2.2.2.1 (by decide) ?_
        refine toQ hQ0 ?_
        exact RI (v := 0) hC hP hD hS [0, 1, 2] gnm6323 rfl rfl (by decide) (⟨⟨0, Or.inr (Or.inl ⟨a6319, c_13_6320, Or.inr ⟨a6325.nos, rfl⟩⟩), rfl⟩, by first | assumption | exact hM⟩) rfl gX12_clash_1.2.2.2.2.2.2.2.2.2
    · refine lv_aload_n hx hb gX12_clash_1.1 rfl (lv_at0 hl) ?_
      refine iV (wr := []) hC hK hl hP hD hS hA (m_doubtX l G kq k6 h0 nw nk mhasKept nt mtaped nr mrowMany mroundOf mroundFrom nm mfromHour mtoHour ns mfrom mto msort misFault mdeep mcoded mlines nl nc nF np ntr nb mbestCost nso nsi nit nsh nsf nss nrc mtraced mdealer mnumber mwhose msize misParted fnw fnm (hM) (hN) (hgp) (ekq) (hkq) (e6) (hk6)) si_X12_152 [0, 1, 2] [] sm_0_1_2 fm_0_1_2 nd_0_1_2 rfl rfl (by decide) rfl rfl rfl rfl rfl (Nat.le_of_ble_eq_true rfl) rm_8_6_6 ⟨Nat.le_of_ble_eq_true rfl, Nat.le_of_ble_eq_true rfl⟩ gX12_clash_1.2.1 (fun r6326 gnm6328 H locs hr6326 hP hD hS => ?_)
      try dsimp only at hr6326
      refine Kpdr (ws := [(h0, oX12 nw nk mhasKept nt mtaped nr mrowMany mroundOf mroundFrom 0 nm mfromHour mtoHour ns mfrom mto msort misFault mdeep mcoded mlines nl nc nF np ntr nb mbestCost nso nsi nit nsh nsf nss nrc mtraced mdealer mnumber mwhose msize misParted), (nw, iA G 1662 fnw), (nm, iA G 36 gnm6328)]) hP hD (fun hP hD => ?_)
      obtain ⟨hr6326, w6329⟩ := hr6326
      obtain ⟨W9_6330, hpx6330, rfl⟩ := hr6326
      try dsimp only at hpx6330
      refine lv_goto (tgt := 35) hx hb gX12_clash_1.2.2.1 (by decide) ?_
      refine toQ hQ0 ?_
      exact RI (v := nI W9_6330) hC hP hD hS [0, 1, 2] gnm6328 rfl rfl (by decide) (⟨⟨nI W9_6330, Or.inr (Or.inr ⟨a6319, c_13_6320, _, hpx6330, rfl⟩), rfl⟩, by first | assumption | exact hM⟩) rfl gX12_clash_1.2.2.2.2.2.2.2.2.2
  · refine lv_if_ne (tgt := 11) hx hb gX12_clash_0.2.2.2.2.1 (by decide) (fun c9 => absurd (by decide) c9) (fun _ => ?_)
    refine lv_iconst (v := (-1)) hx hb gX12_clash_0.2.2.2.2.2.1 (by decide) ?_
    refine toQ hQ0 ?_
    exact RI (v := (-1)) hC hP hD hS [0, 1, 2] fnm rfl rfl (by decide) (⟨⟨(-1), Or.inl ⟨a6319, rfl⟩, rfl⟩, by first | assumption | exact hM⟩) rfl gX12_clash_0.2.2.2.2.2.2.1
def K_m_bits7 (l : Launch) (G : GG) (jb : Nat) : Prop := MP l G yX12_bits cX12_bits 3 (some .int) 1 [.int (nI jb)] [] (fun r : Int32 => ∃ b9, (b9 ≤ 7) ∧ r = nI b9)
set_option maxHeartbeats 4000000 in
set_option maxRecDepth 100000 in
theorem m_bits7 (l : Launch) (G : GG) (jb : Nat) (hjb : jb < 128) : K_m_bits7 l G jb := by
  refine MP.start (by decide +kernel) (Nat.le_of_ble_eq_true rfl) ?_
  intro p e s m below meth c ls hC hK hP hD hl
  refine absQ (fun Q0 hQ0 => ?_)
  have hl : lv_has ls 3 [(0, .int (nI jb))] := hl
  refine Kan8 hC (fun hx hb hr hml hB hown hlocks hnm => ?_)
  refine lv_iconst (v := 0) hx hb gX12_bits_0.1 (by decide) ?_
  refine lv_istore_n (lv' := [(1, .int 0), (0, .int (nI jb))]) hx hb gX12_bits_0.2.1 rfl hl (by decide) rfl (fun ls hl => ?_)
  refine lv_iconst (v := 0) hx hb gX12_bits_0.2.2.1 (by decide) ?_
  refine lv_istore_n (lv' := [(2, .int 0), (1, .int 0), (0, .int (nI jb))]) hx hb gX12_bits_0.2.2.2.1 rfl hl (by decide) rfl (fun ls hl => ?_)
  have keyP : ∀ (nP kP : Nat) (nn : Int32) (ls : Array Slot), kP + nP = 16 → (∃ c, (c ≤ kP ∧ c ≤ 7) ∧ nn = nI c) → lv_has ls 3 [(2, .int (nI kP)), (1, .int nn), (0, .int (nI jb))] → W p l e (RM 1 0 0) s m ([.int (nI jb)] : List Value).toArray below meth c s.heap [] 0 0 Q0 (F0 m 4 ls []) := by
    intro nP
    induction nP with
    | zero =>
      intro kP nn ls hkP hnn hl
      obtain rfl : 16 = kP := by omega
      have hl : lv_has ls 3 [(2, .int 16), (1, .int nn), (0, .int (nI jb))] := hl
      refine lv_iload_n hx hb gX12_bits_0.2.2.2.2.1 rfl (lv_at0 hl) ?_
      refine lv_bipush (v := 16) hx hb gX12_bits_0.2.2.2.2.2.1 (by decide) ?_
      refine lv_icmp_ge (tgt := 24) hx hb gX12_bits_0.2.2.2.2.2.2.1 (by decide) (fun _ => ?_) (fun c9 => absurd (by decide) c9)
      refine lv_iload_n hx hb gX12_bits_1.2.2.2.2.2.2.2.1 rfl (lv_at1 hl) ?_
      refine toQ hQ0 ?_
      exact RP (v := nn) hC (hnn.elim fun c9 h9 => ⟨c9, h9.1.2, h9.2⟩) rfl gX12_bits_1.2.2.2.2.2.2.2.2
    | succ nP ihP =>
      intro kP nn ls hkP hnn hl
      refine lv_iload_n hx hb gX12_bits_0.2.2.2.2.1 rfl (lv_at0 hl) ?_
      refine lv_bipush (v := 16) hx hb gX12_bits_0.2.2.2.2.2.1 (by decide) ?_
      refine lv_icmp_ge (tgt := 24) hx hb gX12_bits_0.2.2.2.2.2.2.1 (by decide) (fun c9 => absurd c9 (nI_ge (a := kP) (b := 16) (by omega) (by omega))) (fun _ => ?_)
      refine lv_iload_n hx hb gX12_bits_0.2.2.2.2.2.2.2.1 rfl (lv_at1 hl) ?_
      refine lv_iload_n hx hb gX12_bits_0.2.2.2.2.2.2.2.2.1 rfl (lv_at2 hl) ?_
      refine lv_iload_n hx hb gX12_bits_0.2.2.2.2.2.2.2.2.2 rfl (lv_at0 hl) ?_
      refine lv_ishr hx hb gX12_bits_1.1 ?_
      refine lv_iconst (v := 1) hx hb gX12_bits_1.2.1 (by decide) ?_
      refine lv_iand hx hb gX12_bits_1.2.2.1 ?_
      refine lv_iadd hx hb gX12_bits_1.2.2.2.1 ?_
      refine lv_istore_n (lv' := [(1, .int (nn + (((nI jb) >>> ((nI kP) &&& 31)) &&& 1))), (2, .int (nI kP)), (0, .int (nI jb))]) hx hb gX12_bits_1.2.2.2.2.1 rfl hl (by decide) rfl (fun ls hl => ?_)
      refine lv_iinc (v := nI (kP + 1)) (lv' := [(2, .int (nI (kP + 1))), (1, .int (nn + (((nI jb) >>> ((nI kP) &&& 31)) &&& 1))), (0, .int (nI jb))]) hx hb gX12_bits_1.2.2.2.2.2.1 hl (k := 1) rfl (nI_1 _) (by decide) rfl (fun ls hl => ?_)
      refine lv_goto (tgt := 4) hx hb gX12_bits_1.2.2.2.2.2.2.1 (by decide) ?_
      exact ihP (kP + 1) (nn + (((nI jb) >>> ((nI kP) &&& 31)) &&& 1)) _ (by omega) (by first | assumption | exact Or.inl rfl | exact Or.inr rfl | exact ⟨0, by omega, rfl⟩ | exact hnn.elim fun c9 h9 => bits7 hjb (by omega) h9.1 h9.2 rfl) (lv_sub hl [0, 1, 2] rfl)
  exact keyP 16 0 0 _ (by omega) (by first | assumption | exact Or.inl rfl | exact Or.inr rfl | exact ⟨0, by omega, rfl⟩ | exact hnn.elim fun c9 h9 => bits7 hjb (by omega) h9.1 h9.2 rfl) (lv_sub hl [0, 1, 2] rfl)
def K_m_go_step (l : Launch) (G : GG) (mn : Nat) (h0 : Nat) (k9 : Nat) (jl : Nat) (ov : Int32) (cd : Int32) (co : Int32) (nw : Nat) (nk : Nat) (mhasKept : Int32) (nt : Nat) (mtaped : Int32) (nr : Nat) (mrowMany : Int32) (mroundOf : Int32) (mroundFrom : Int32) (mouts : Int32) (nm : Nat) (mfromHour : Int32) (mtoHour : Int32) (ns : Nat) (mfrom : Int32) (mto : Int32) (msort : Int32) (misFault : Int32) (mdeep : Int32) (mcoded : Int32) (mlines : Int32) (nl : Nat) (nc : Nat) (nF : Nat) (np : Nat) (ntr : Nat) (nb : Nat) (bc : Int32) (nso : Nat) (nsi : Nat) (nit : Nat) (nsh : Nat) (nsf : Nat) (nss : Nat) (nrc : Nat) (mtraced : Int32) (mdealer : Int32) (mnumber : Int32) (mwhose : Int32) (msize : Int32) (misParted : Int32) (fnw : Nat → Int32) (ftr : Nat → Int32) (fbe : Nat → Int32) : Prop := MV l G yX12_go cX12_go 9 ((mn + 1) + 2) 0 0 [.ref h0, .int (nI k9), .int (nI jl), .int ov, .int cd, .int co] [(h0, oX12 nw nk mhasKept nt mtaped nr mrowMany mroundOf mroundFrom mouts nm mfromHour mtoHour ns mfrom mto msort misFault mdeep mcoded mlines nl nc nF np ntr nb bc nso nsi nit nsh nsf nss nrc mtraced mdealer mnumber mwhose msize misParted), (nw, iA G 1662 fnw), (ntr, iA G 7 ftr), (nb, iA G 7 fbe)] (fun u : Int32 × (Nat → Int32) × (Nat → Int32) => B66 u.2.1 u.2.2) (fun u : Int32 × (Nat → Int32) × (Nat → Int32) => [(h0, oX12 nw nk mhasKept nt mtaped nr mrowMany mroundOf mroundFrom mouts nm mfromHour mtoHour ns mfrom mto msort misFault mdeep mcoded mlines nl nc nF np ntr nb u.1 nso nsi nit nsh nsf nss nrc mtraced mdealer mnumber mwhose msize misParted), (nw, iA G 1662 fnw), (ntr, iA G 7 u.2.1), (nb, iA G 7 u.2.2)])
set_option maxHeartbeats 4000000 in
set_option maxRecDepth 100000 in
theorem m_go_step (l : Launch) (G : GG) (mn : Nat) (h0 : Nat) (k9 : Nat) (jl : Nat) (ov : Int32) (cd : Int32) (co : Int32) (nw : Nat) (nk : Nat) (mhasKept : Int32) (nt : Nat) (mtaped : Int32) (nr : Nat) (mrowMany : Int32) (mroundOf : Int32) (mroundFrom : Int32) (mouts : Int32) (nm : Nat) (mfromHour : Int32) (mtoHour : Int32) (ns : Nat) (mfrom : Int32) (mto : Int32) (msort : Int32) (misFault : Int32) (mdeep : Int32) (mcoded : Int32) (mlines : Int32) (nl : Nat) (nc : Nat) (nF : Nat) (np : Nat) (ntr : Nat) (nb : Nat) (bc : Int32) (nso : Nat) (nsi : Nat) (nit : Nat) (nsh : Nat) (nsf : Nat) (nss : Nat) (nrc : Nat) (mtraced : Int32) (mdealer : Int32) (mnumber : Int32) (mwhose : Int32) (msize : Int32) (misParted : Int32) (fnw : Nat → Int32) (ftr : Nat → Int32) (fbe : Nat → Int32) (hjl : jl < 128) (hpc : pcnt jl ≤ mn + 1) (hk9 : k9 + (mn + 1) ≤ 7) (hB6 : B66 ftr fbe) (ihG : ∀ (h0 : Nat) (k9 : Nat) (jl : Nat) (ov : Int32) (cd : Int32) (co : Int32) (nw : Nat) (nk : Nat) (mhasKept : Int32) (nt : Nat) (mtaped : Int32) (nr : Nat) (mrowMany : Int32) (mroundOf : Int32) (mroundFrom : Int32) (mouts : Int32) (nm : Nat) (mfromHour : Int32) (mtoHour : Int32) (ns : Nat) (mfrom : Int32) (mto : Int32) (msort : Int32) (misFault : Int32) (mdeep : Int32) (mcoded : Int32) (mlines : Int32) (nl : Nat) (nc : Nat) (nF : Nat) (np : Nat) (ntr : Nat) (nb : Nat) (bc : Int32) (nso : Nat) (nsi : Nat) (nit : Nat) (nsh : Nat) (nsf : Nat) (nss : Nat) (nrc : Nat) (mtraced : Int32) (mdealer : Int32) (mnumber : Int32) (mwhose : Int32) (msize : Int32) (misParted : Int32) (fnw : Nat → Int32) (ftr : Nat → Int32) (fbe : Nat → Int32) (hjl : jl < 128) (hpc : pcnt jl ≤ mn) (hk9 : k9 + (mn) ≤ 7) (hB6 : B66 ftr fbe), MV l G yX12_go cX12_go 9 (mn + 2) 0 0 [.ref h0, .int (nI k9), .int (nI jl), .int ov, .int cd, .int co] [(h0, oX12 nw nk mhasKept nt mtaped nr mrowMany mroundOf mroundFrom mouts nm mfromHour mtoHour ns mfrom mto msort misFault mdeep mcoded mlines nl nc nF np ntr nb bc nso nsi nit nsh nsf nss nrc mtraced mdealer mnumber mwhose msize misParted), (nw, iA G 1662 fnw), (ntr, iA G 7 ftr), (nb, iA G 7 fbe)] (fun u : Int32 × (Nat → Int32) × (Nat → Int32) => B66 u.2.1 u.2.2) (fun u : Int32 × (Nat → Int32) × (Nat → Int32) => [(h0, oX12 nw nk mhasKept nt mtaped nr mrowMany mroundOf mroundFrom mouts nm mfromHour mtoHour ns mfrom mto msort misFault mdeep mcoded mlines nl nc nF np ntr nb u.1 nso nsi nit nsh nsf nss nrc mtraced mdealer mnumber mwhose msize misParted), (nw, iA G 1662 fnw), (ntr, iA G 7 u.2.1), (nb, iA G 7 u.2.2)])) : K_m_go_step l G mn h0 k9 jl ov cd co nw nk mhasKept nt mtaped nr mrowMany mroundOf mroundFrom mouts nm mfromHour mtoHour ns mfrom mto msort misFault mdeep mcoded mlines nl nc nF np ntr nb bc nso nsi nit nsh nsf nss nrc mtraced mdealer mnumber mwhose msize misParted fnw ftr fbe := by
  refine MV.start (by decide +kernel) (Nat.le_of_ble_eq_true rfl) ?_
  intro p e s m below meth c A ls hC hK hP hD hS hA hl
  refine absQ (fun Q0 hQ0 => ?_)
  have hl : lv_has ls 9 [(0, .ref h0), (1, .int (nI k9)), (2, .int (nI jl)), (3, .int ov), (4, .int cd), (5, .int co)] := hl
  refine Kan8 hC (fun hx hb hr hml hB hown hlocks hnm => ?_)
  refine lv_iload_n hx hb gX12_go_0.1 rfl (lv_at2 hl) ?_
  refine lv_if_ne (tgt := 56) hx hb gX12_go_0.2.1 (by decide) (fun c_1_6331 => ?_) (fun c_1_6331 => ?_)
  · refine lv_iconst (v := 0) hx hb gX12_go_2.2.2.2.2.2.2.2.2.1 (by decide) ?_
    refine lv_istore (lv' := [(6, .int 0), (0, .ref h0), (1, .int (nI k9)), (2, .int (nI jl)), (3, .int ov), (4, .int cd), (5, .int co)]) hx hb gX12_go_2.2.2.2.2.2.2.2.2.2 hl (by decide) rfl (fun ls hl => ?_)
    have keyQ : ∀ (nQ kQ : Nat) (vbc : Int32) (vT : Nat → Int32) (vB : Nat → Int32) (H : Heap) (locs : List Loc) (ls : Array Slot), kQ + nQ = 7 → (B66 vT vB) → va_PD G A [(h0, oX12 nw nk mhasKept nt mtaped nr mrowMany mroundOf mroundFrom mouts nm mfromHour mtoHour ns mfrom mto msort misFault mdeep mcoded mlines nl nc nF np ntr nb vbc nso nsi nit nsh nsf nss nrc mtraced mdealer mnumber mwhose msize misParted), (nw, iA G 1662 fnw), (ntr, iA G 7 vT), (nb, iA G 7 vB)] H → va_S A s.heap H locs → lv_has ls 9 [(6, .int (nI kQ)), (0, .ref h0), (1, .int (nI k9)), (2, .int (nI jl)), (3, .int ov), (4, .int cd), (5, .int co)] → W p l e (RM ((mn + 1) + 2) 0 0) s m ([.ref h0, .int (nI k9), .int (nI jl), .int ov, .int cd, .int co] : List Value).toArray below meth c H locs 0 0 Q0 (F0 m 59 ls []) := by
      intro nQ
      induction nQ with
      | zero =>
        intro kQ vbc vT vB H locs ls hkQ hvT hPD hS hl
        refine Kan2 hPD (fun hP hD => ?_)
        obtain rfl : 7 = kQ := by omega
        have hl : lv_has ls 9 [(6, .int 7), (0, .ref h0), (1, .int (nI k9)), (2, .int (nI jl)), (3, .int ov), (4, .int cd), (5, .int co)] := hl
        refine lv_iload hx hb gX12_go_3.1 (lv_at0 hl) ?_
        refine lv_bipush (v := 7) hx hb gX12_go_3.2.1 (by decide) ?_
        refine lv_icmp_ge (tgt := 159) hx hb gX12_go_3.2.2.1 (by decide) (fun _ => ?_) (fun c9 => absurd (by decide) c9)
        refine toQ hQ0 ?_
        exact RV hC hP hD hS [0, 1, 2, 3] (vbc, vT, vB) rfl rfl (by decide) (by assumption) gX12_go_9
      | succ nQ ihQ =>
        intro kQ vbc vT vB H locs ls hkQ hvT hPD hS hl
        refine Kan2 hPD (fun hP hD => ?_)
        refine lv_iload hx hb gX12_go_3.1 (lv_at0 hl) ?_
        refine lv_bipush (v := 7) hx hb gX12_go_3.2.1 (by decide) ?_
        refine lv_icmp_ge (tgt := 159) hx hb gX12_go_3.2.2.1 (by decide) (fun c9 => absurd c9 (nI_ge (a := kQ) (b := 7) (by omega) (by omega))) (fun _ => ?_)
        refine lv_iload_n hx hb gX12_go_3.2.2.2.1 rfl (lv_at3 hl) ?_
        refine lv_iload hx hb gX12_go_3.2.2.2.2.1 (lv_at0 hl) ?_
        refine pS hC hK hl (m_has l G (nI jl) (nI kQ)) si_X12_99 rfl rfl (Nat.le_of_ble_eq_true rfl) ⟨by simp only [RM]; omega, by simp only [RM]; omega⟩ ⟨by first | exact Nat.le_of_ble_eq_true rfl | exact Nat.zero_le _, by first | exact Nat.le_of_ble_eq_true rfl | exact Nat.zero_le _⟩ gX12_go_3.2.2.2.2.2.1 (Kors (Keqa fun a6333 => ?_) (Keqa fun a6333 => ?_))
        · refine lv_if_eq (tgt := 153) hx hb gX12_go_3.2.2.2.2.2.2.1 (by decide) (fun c9 => absurd c9 (by decide)) (fun _ => ?_)
          refine lv_iload_n hx hb gX12_go_3.2.2.2.2.2.2.2.1 rfl (lv_at4 hl) ?_
          refine lv_aload_n hx hb gX12_go_3.2.2.2.2.2.2.2.2.1 rfl (lv_at1 hl) ?_
          refine gf_X12_9 hC rfl hK hP 0 rfl rfl gX12_go_3.2.2.2.2.2.2.2.2.2 ?_
          refine lv_sipush (v := 1648) hx hb gX12_go_4.1 (by decide) ?_
          refine lv_iconst (v := 2) hx hb gX12_go_4.2.1 (by decide) ?_
          refine lv_iload hx hb gX12_go_4.2.2.1 (lv_at0 hl) ?_
          refine lv_imul hx hb gX12_go_4.2.2.2.1 ?_
          refine eqi (x1 := nI (2 * kQ)) (nI_mul 2 kQ) ?_
          refine lv_iadd hx hb gX12_go_4.2.2.2.2.1 ?_
          refine eqi (x1 := nI (1648 + 2 * kQ)) (nI_add 1648 (2 * kQ)) ?_
          refine aldN hC hK hP 1 rfl (k := (1648 + 2 * kQ)) (by omega) (Nat.le_of_ble_eq_true rfl) (v := fnw (1648 + 2 * kQ)) rfl gX12_go_4.2.2.2.2.2.1 ?_
          refine lv_topi (fun x6334 ex6334 => ?_)
          refine lv_iadd hx hb gX12_go_4.2.2.2.2.2.2.1 ?_
          refine lv_istore (lv' := [(7, .int (ov + x6334)), (6, .int (nI kQ)), (0, .ref h0), (1, .int (nI k9)), (2, .int (nI jl)), (3, .int ov), (4, .int cd), (5, .int co)]) hx hb gX12_go_4.2.2.2.2.2.2.2.1 hl (by decide) rfl (fun ls hl => ?_)
          refine lv_aload_n hx hb gX12_go_4.2.2.2.2.2.2.2.2.1 rfl (lv_at2 hl) ?_
          refine gf_X12_9 hC rfl hK hP 0 rfl rfl gX12_go_4.2.2.2.2.2.2.2.2.2 ?_
          refine lv_sipush (v := 1648) hx hb gX12_go_5.1 (by decide) ?_
          refine lv_iconst (v := 2) hx hb gX12_go_5.2.1 (by decide) ?_
          refine lv_iload hx hb gX12_go_5.2.2.1 (lv_at1 hl) ?_
          refine lv_imul hx hb gX12_go_5.2.2.2.1 ?_
          refine eqi (x1 := nI (2 * kQ)) (nI_mul 2 kQ) ?_
          refine lv_iadd hx hb gX12_go_5.2.2.2.2.1 ?_
          refine eqi (x1 := nI (1648 + 2 * kQ)) (nI_add 1648 (2 * kQ)) ?_
          refine lv_iconst (v := 1) hx hb gX12_go_5.2.2.2.2.2.1 (by decide) ?_
          refine lv_iadd hx hb gX12_go_5.2.2.2.2.2.2.1 ?_
          refine eqi (x1 := nI (1648 + 2 * kQ + 1)) (nI_add (1648 + 2 * kQ) 1) ?_
          refine aldN hC hK hP 1 rfl (k := (1648 + 2 * kQ + 1)) (by omega) (Nat.le_of_ble_eq_true rfl) (v := fnw (1648 + 2 * kQ + 1)) rfl gX12_go_5.2.2.2.2.2.2.2.1 ?_
          refine lv_topi (fun x6335 ex6335 => ?_)
          refine lv_istore (lv' := [(8, .int x6335), (7, .int (ov + x6334)), (6, .int (nI kQ)), (0, .ref h0), (1, .int (nI k9)), (2, .int (nI jl)), (3, .int ov), (4, .int cd), (5, .int co)]) hx hb gX12_go_5.2.2.2.2.2.2.2.2.1 hl (by decide) rfl (fun ls hl => ?_)
          refine lv_aload_n hx hb gX12_go_5.2.2.2.2.2.2.2.2.2 rfl (lv_at3 hl) ?_
          refine gf_X12_57 hC rfl hK hP 0 rfl rfl gX12_go_6.1 ?_
          refine lv_iload_n hx hb gX12_go_6.2.1 rfl (lv_at4 hl) ?_
          refine lv_iload hx hb gX12_go_6.2.2.1 (lv_at2 hl) ?_
          refine astN hC hK hP hD hS 2 (ws' := [(h0, oX12 nw nk mhasKept nt mtaped nr mrowMany mroundOf mroundFrom mouts nm mfromHour mtoHour ns mfrom mto msort misFault mdeep mcoded mlines nl nc nF np ntr nb vbc nso nsi nit nsh nsf nss nrc mtraced mdealer mnumber mwhose msize misParted), (nw, iA G 1662 fnw), (ntr, iA G 7 (upd vT k9 (nI kQ))), (nb, iA G 7 vB)]) rfl (k := k9) (by omega) (Nat.le_of_ble_eq_true rfl) (rfl) gX12_go_6.2.2.2.1 (fun H locs hP hD hS => ?_)
          have hB3 : B66 (upd vT k9 (nI kQ)) vB := B66.tr hvT (by omega)
          refine lv_aload_n hx hb gX12_go_6.2.2.2.2.1 rfl (lv_at3 hl) ?_
          refine lv_iload_n hx hb gX12_go_6.2.2.2.2.2.1 rfl (lv_at4 hl) ?_
          refine lv_iconst (v := 1) hx hb gX12_go_6.2.2.2.2.2.2.1 (by decide) ?_
          refine lv_iadd hx hb gX12_go_6.2.2.2.2.2.2.2.1 ?_
          refine eqi (x1 := nI (k9 + 1)) (nI_add k9 1) ?_
          refine lv_iload_n hx hb gX12_go_6.2.2.2.2.2.2.2.2.1 rfl (lv_at5 hl) ?_
          refine lv_iconst (v := 1) hx hb gX12_go_6.2.2.2.2.2.2.2.2.2 (by decide) ?_
          refine lv_iload hx hb gX12_go_7.1 (lv_at2 hl) ?_
          refine lv_ishl hx hb gX12_go_7.2.1 ?_
          refine lv_ixor hx hb gX12_go_7.2.2.1 ?_
          obtain ⟨jx, hjx, ejx, hpx⟩ := go_x hjl (by omega) a6333
          refine eqi (x1 := nI jx) (ejx) ?_
          refine lv_iload hx hb gX12_go_7.2.2.2.1 (lv_at1 hl) ?_
          refine lv_iload hx hb gX12_go_7.2.2.2.2.1 (lv_at7 hl) ?_
          refine lv_iload hx hb gX12_go_7.2.2.2.2.2.1 (lv_at0 hl) ?_
          refine lv_ior hx hb gX12_go_7.2.2.2.2.2.2.1 ?_
          refine lv_iload hx hb gX12_go_7.2.2.2.2.2.2.2.1 (lv_at8 hl) ?_
          refine lv_iload hx hb gX12_go_7.2.2.2.2.2.2.2.2.1 (lv_at1 hl) ?_
          refine lv_iload hx hb gX12_go_7.2.2.2.2.2.2.2.2.2 (lv_at0 hl) ?_
          refine lv_iload hx hb gX12_go_8.1 (lv_at7 hl) ?_
          refine lv_iconst (v := (-1)) hx hb gX12_go_8.2.1 (by decide) ?_
          refine lv_ixor hx hb gX12_go_8.2.2.1 ?_
          refine lv_iand hx hb gX12_go_8.2.2.2.1 ?_
          refine pS hC hK hl (m_bits l G (x6335 &&& (cd ^^^ (-1)))) si_X12_110 rfl rfl (Nat.le_of_ble_eq_true rfl) ⟨by simp only [RM]; omega, by simp only [RM]; omega⟩ ⟨by first | exact Nat.le_of_ble_eq_true rfl | exact Nat.zero_le _, by first | exact Nat.le_of_ble_eq_true rfl | exact Nat.zero_le _⟩ gX12_go_8.2.2.2.2.1 (fun r6336 hr6336 => ?_)
          refine lv_imul hx hb gX12_go_8.2.2.2.2.2.1 ?_
          refine lv_iadd hx hb gX12_go_8.2.2.2.2.2.2.1 ?_
          refine vV (wr := []) hC hK hl hP hD hS hA (ihG h0 (k9 + 1) jx (ov + x6334) (cd ||| x6335) (co + ((ov + x6334) * r6336)) nw nk mhasKept nt mtaped nr mrowMany mroundOf mroundFrom mouts nm mfromHour mtoHour ns mfrom mto msort misFault mdeep mcoded mlines nl nc nF np ntr nb vbc nso nsi nit nsh nsf nss nrc mtraced mdealer mnumber mwhose msize misParted fnw (upd vT k9 (nI kQ)) vB (by omega) (by omega) (by omega) (hB3)) si_X12_323 [0, 1, 2, 3] [] sm_0_1_2_3 fm_0_1_2_3 nd_0_1_2_3 rfl rfl (by decide) rfl rfl rfl rfl rfl (Nat.le_of_ble_eq_true rfl) ⟨by simp only [RM]; omega, by simp only [RM]; omega⟩ ⟨Nat.le_of_ble_eq_true rfl, Nat.le_of_ble_eq_true rfl⟩ gX12_go_8.2.2.2.2.2.2.2.1 (Ktu3 fun bc16339 gtr6340 gbe6341 => ?_)
          intro H locs hr6337 hP hD hS
          try dsimp only at hr6337
          refine Kpdr (ws := [(h0, oX12 nw nk mhasKept nt mtaped nr mrowMany mroundOf mroundFrom mouts nm mfromHour mtoHour ns mfrom mto msort misFault mdeep mcoded mlines nl nc nF np ntr nb bc16339 nso nsi nit nsh nsf nss nrc mtraced mdealer mnumber mwhose msize misParted), (nw, iA G 1662 fnw), (ntr, iA G 7 gtr6340), (nb, iA G 7 gbe6341)]) hP hD (fun hP hD => ?_)
          have w6342 := hr6337
          refine lv_iinc (v := nI (kQ + 1)) (lv' := [(6, .int (nI (kQ + 1))), (8, .int x6335), (7, .int (ov + x6334)), (0, .ref h0), (1, .int (nI k9)), (2, .int (nI jl)), (3, .int ov), (4, .int cd), (5, .int co)]) hx hb gX12_go_8.2.2.2.2.2.2.2.2.1 hl (k := 2) rfl (nI_1 _) (by decide) rfl (fun ls hl => ?_)
          refine lv_goto (tgt := 59) hx hb gX12_go_8.2.2.2.2.2.2.2.2.2 (by decide) ?_
          exact ihQ (kQ + 1) bc16339 gtr6340 gbe6341 _ _ _ (by omega) (by first | assumption | exact Or.inl rfl | exact Or.inr rfl) (And.intro hP hD) hS (lv_sub hl [0, 3, 4, 5, 6, 7, 8] rfl)
        · refine lv_if_eq (tgt := 153) hx hb gX12_go_3.2.2.2.2.2.2.1 (by decide) (fun _ => ?_) (fun c9 => absurd (by decide) c9)
          refine lv_iinc (v := nI (kQ + 1)) (lv' := [(6, .int (nI (kQ + 1))), (0, .ref h0), (1, .int (nI k9)), (2, .int (nI jl)), (3, .int ov), (4, .int cd), (5, .int co)]) hx hb gX12_go_8.2.2.2.2.2.2.2.2.1 hl (k := 0) rfl (nI_1 _) (by decide) rfl (fun ls hl => ?_)
          refine lv_goto (tgt := 59) hx hb gX12_go_8.2.2.2.2.2.2.2.2.2 (by decide) ?_
          exact ihQ (kQ + 1) vbc vT vB _ _ _ (by omega) (by first | assumption | exact Or.inl rfl | exact Or.inr rfl) (And.intro hP hD) hS (lv_sub hl [0, 1, 2, 3, 4, 5, 6] rfl)
    exact keyQ 7 0 bc ftr fbe _ _ _ (by omega) (by first | assumption | exact Or.inl rfl | exact Or.inr rfl) (And.intro hP hD) hS (lv_sub hl [0, 1, 2, 3, 4, 5, 6] rfl)
  · refine lv_aload_n hx hb gX12_go_0.2.2.1 rfl (lv_at0 hl) ?_
    refine gf_X12_320 hC rfl hK hP 0 rfl rfl gX12_go_0.2.2.2.1 ?_
    refine lv_if_lt (tgt := 20) hx hb gX12_go_0.2.2.2.2.1 (by decide) (fun c_8_6343 => ?_) (fun c_8_6343 => ?_)
    · refine lv_aload_n hx hb gX12_go_0.2.2.2.2.2.2.2.2.2 rfl (lv_at0 hl) ?_
      refine lv_iload hx hb gX12_go_1.1 (lv_at5 hl) ?_
      refine pf_X12_320 hC rfl hK hP hD hS 0 (ws' := [(h0, oX12 nw nk mhasKept nt mtaped nr mrowMany mroundOf mroundFrom mouts nm mfromHour mtoHour ns mfrom mto msort misFault mdeep mcoded mlines nl nc nF np ntr nb co nso nsi nit nsh nsf nss nrc mtraced mdealer mnumber mwhose msize misParted), (nw, iA G 1662 fnw), (ntr, iA G 7 ftr), (nb, iA G 7 fbe)]) rfl (Nat.le_of_ble_eq_true rfl) rfl rfl rfl gX12_go_1.2.1 (fun H locs hP hD hS => ?_)
      refine lv_iconst (v := 0) hx hb gX12_go_1.2.2.1 (by decide) ?_
      refine lv_istore (lv' := [(6, .int 0), (0, .ref h0), (1, .int (nI k9)), (2, .int (nI jl)), (3, .int ov), (4, .int cd), (5, .int co)]) hx hb gX12_go_1.2.2.2.1 hl (by decide) rfl (fun ls hl => ?_)
      have keyP : ∀ (nP kP : Nat) (vB : Nat → Int32) (H : Heap) (locs : List Loc) (ls : Array Slot), kP + nP = k9 → (B66 ftr vB) → va_PD G A [(h0, oX12 nw nk mhasKept nt mtaped nr mrowMany mroundOf mroundFrom mouts nm mfromHour mtoHour ns mfrom mto msort misFault mdeep mcoded mlines nl nc nF np ntr nb co nso nsi nit nsh nsf nss nrc mtraced mdealer mnumber mwhose msize misParted), (nw, iA G 1662 fnw), (ntr, iA G 7 ftr), (nb, iA G 7 vB)] H → va_S A s.heap H locs → lv_has ls 9 [(6, .int (nI kP)), (0, .ref h0), (1, .int (nI k9)), (2, .int (nI jl)), (3, .int ov), (4, .int cd), (5, .int co)] → W p l e (RM ((mn + 1) + 2) 0 0) s m ([.ref h0, .int (nI k9), .int (nI jl), .int ov, .int cd, .int co] : List Value).toArray below meth c H locs 0 0 Q0 (F0 m 29 ls []) := by
        intro nP
        induction nP with
        | zero =>
          intro kP vB H locs ls hkP hvB hPD hS hl
          refine Kan2 hPD (fun hP hD => ?_)
          obtain rfl : k9 = kP := by omega
          have hl : lv_has ls 9 [(6, .int (nI k9)), (0, .ref h0), (1, .int (nI k9)), (2, .int (nI jl)), (3, .int ov), (4, .int cd), (5, .int co)] := hl
          refine lv_iload hx hb gX12_go_1.2.2.2.2.1 (lv_at0 hl) ?_
          refine lv_iload_n hx hb gX12_go_1.2.2.2.2.2.1 rfl (lv_at2 hl) ?_
          refine lv_icmp_ge (tgt := 55) hx hb gX12_go_1.2.2.2.2.2.2.1 (by decide) (fun _ => ?_) (fun c9 => absurd (Int32.le_refl _) c9)
          refine toQ hQ0 ?_
          exact RV hC hP hD hS [0, 1, 2, 3] (co, ftr, vB) rfl rfl (by decide) (by assumption) gX12_go_2.2.2.2.2.2.2.2.1
        | succ nP ihP =>
          intro kP vB H locs ls hkP hvB hPD hS hl
          refine Kan2 hPD (fun hP hD => ?_)
          refine lv_iload hx hb gX12_go_1.2.2.2.2.1 (lv_at0 hl) ?_
          refine lv_iload_n hx hb gX12_go_1.2.2.2.2.2.1 rfl (lv_at2 hl) ?_
          refine lv_icmp_ge (tgt := 55) hx hb gX12_go_1.2.2.2.2.2.2.1 (by decide) (fun c9 => absurd c9 (nI_ge (a := kP) (b := k9) (by omega) (by omega))) (fun _ => ?_)
          refine lv_aload_n hx hb gX12_go_1.2.2.2.2.2.2.2.1 rfl (lv_at1 hl) ?_
          refine gf_X12_60 hC rfl hK hP 0 rfl rfl gX12_go_1.2.2.2.2.2.2.2.2.1 ?_
          refine lv_iload hx hb gX12_go_1.2.2.2.2.2.2.2.2.2 (lv_at0 hl) ?_
          refine lv_aload_n hx hb gX12_go_2.1 rfl (lv_at1 hl) ?_
          refine gf_X12_57 hC rfl hK hP 0 rfl rfl gX12_go_2.2.1 ?_
          refine lv_iload hx hb gX12_go_2.2.2.1 (lv_at0 hl) ?_
          refine aldN hC hK hP 2 rfl (k := kP) (by omega) (Nat.le_of_ble_eq_true rfl) (v := ftr kP) rfl gX12_go_2.2.2.2.1 ?_
          refine lv_topi (fun x6344 ex6344 => ?_)
          refine astN hC hK hP hD hS 3 (ws' := [(h0, oX12 nw nk mhasKept nt mtaped nr mrowMany mroundOf mroundFrom mouts nm mfromHour mtoHour ns mfrom mto msort misFault mdeep mcoded mlines nl nc nF np ntr nb co nso nsi nit nsh nsf nss nrc mtraced mdealer mnumber mwhose msize misParted), (nw, iA G 1662 fnw), (ntr, iA G 7 ftr), (nb, iA G 7 (upd vB kP x6344))]) rfl (k := kP) (by omega) (Nat.le_of_ble_eq_true rfl) (rfl) gX12_go_2.2.2.2.2.1 (fun H locs hP hD hS => ?_)
          refine lv_iinc (v := nI (kP + 1)) (lv' := [(6, .int (nI (kP + 1))), (0, .ref h0), (1, .int (nI k9)), (2, .int (nI jl)), (3, .int ov), (4, .int cd), (5, .int co)]) hx hb gX12_go_2.2.2.2.2.2.1 hl (k := 0) rfl (nI_1 _) (by decide) rfl (fun ls hl => ?_)
          refine lv_goto (tgt := 29) hx hb gX12_go_2.2.2.2.2.2.2.1 (by decide) ?_
          exact ihP (kP + 1) (upd vB kP x6344) _ _ _ (by omega) (by first | assumption | exact Or.inl rfl | exact Or.inr rfl | exact B66.cp (by assumption) (by omega) (by assumption)) (And.intro hP hD) hS (lv_sub hl [0, 1, 2, 3, 4, 5, 6] rfl)
      exact keyP k9 0 fbe _ _ _ (by omega) (by first | assumption | exact Or.inl rfl | exact Or.inr rfl | exact B66.cp (by assumption) (by omega) (by assumption)) (And.intro hP hD) hS (lv_sub hl [0, 1, 2, 3, 4, 5, 6] rfl)
    · refine lv_iload hx hb gX12_go_0.2.2.2.2.2.1 (lv_at5 hl) ?_
      refine lv_aload_n hx hb gX12_go_0.2.2.2.2.2.2.1 rfl (lv_at0 hl) ?_
      refine gf_X12_320 hC rfl hK hP 0 rfl rfl gX12_go_0.2.2.2.2.2.2.2.1 ?_
      refine lv_icmp_ge (tgt := 55) hx hb gX12_go_0.2.2.2.2.2.2.2.2.1 (by decide) (fun c_17_6345 => ?_) (fun c_17_6345 => ?_)
      · refine toQ hQ0 ?_
        exact RV hC hP hD hS [0, 1, 2, 3] (bc, ftr, fbe) rfl rfl (by decide) (by assumption) gX12_go_2.2.2.2.2.2.2.2.1
      · refine lv_aload_n hx hb gX12_go_0.2.2.2.2.2.2.2.2.2 rfl (lv_at0 hl) ?_
        refine lv_iload hx hb gX12_go_1.1 (lv_at5 hl) ?_
        refine pf_X12_320 hC rfl hK hP hD hS 0 (ws' := [(h0, oX12 nw nk mhasKept nt mtaped nr mrowMany mroundOf mroundFrom mouts nm mfromHour mtoHour ns mfrom mto msort misFault mdeep mcoded mlines nl nc nF np ntr nb co nso nsi nit nsh nsf nss nrc mtraced mdealer mnumber mwhose msize misParted), (nw, iA G 1662 fnw), (ntr, iA G 7 ftr), (nb, iA G 7 fbe)]) rfl (Nat.le_of_ble_eq_true rfl) rfl rfl rfl gX12_go_1.2.1 (fun H locs hP hD hS => ?_)
        refine lv_iconst (v := 0) hx hb gX12_go_1.2.2.1 (by decide) ?_
        refine lv_istore (lv' := [(6, .int 0), (0, .ref h0), (1, .int (nI k9)), (2, .int (nI jl)), (3, .int ov), (4, .int cd), (5, .int co)]) hx hb gX12_go_1.2.2.2.1 hl (by decide) rfl (fun ls hl => ?_)
        have keyP : ∀ (nP kP : Nat) (vB : Nat → Int32) (H : Heap) (locs : List Loc) (ls : Array Slot), kP + nP = k9 → (B66 ftr vB) → va_PD G A [(h0, oX12 nw nk mhasKept nt mtaped nr mrowMany mroundOf mroundFrom mouts nm mfromHour mtoHour ns mfrom mto msort misFault mdeep mcoded mlines nl nc nF np ntr nb co nso nsi nit nsh nsf nss nrc mtraced mdealer mnumber mwhose msize misParted), (nw, iA G 1662 fnw), (ntr, iA G 7 ftr), (nb, iA G 7 vB)] H → va_S A s.heap H locs → lv_has ls 9 [(6, .int (nI kP)), (0, .ref h0), (1, .int (nI k9)), (2, .int (nI jl)), (3, .int ov), (4, .int cd), (5, .int co)] → W p l e (RM ((mn + 1) + 2) 0 0) s m ([.ref h0, .int (nI k9), .int (nI jl), .int ov, .int cd, .int co] : List Value).toArray below meth c H locs 0 0 Q0 (F0 m 29 ls []) := by
          intro nP
          induction nP with
          | zero =>
            intro kP vB H locs ls hkP hvB hPD hS hl
            refine Kan2 hPD (fun hP hD => ?_)
            obtain rfl : k9 = kP := by omega
            have hl : lv_has ls 9 [(6, .int (nI k9)), (0, .ref h0), (1, .int (nI k9)), (2, .int (nI jl)), (3, .int ov), (4, .int cd), (5, .int co)] := hl
            refine lv_iload hx hb gX12_go_1.2.2.2.2.1 (lv_at0 hl) ?_
            refine lv_iload_n hx hb gX12_go_1.2.2.2.2.2.1 rfl (lv_at2 hl) ?_
            refine lv_icmp_ge (tgt := 55) hx hb gX12_go_1.2.2.2.2.2.2.1 (by decide) (fun _ => ?_) (fun c9 => absurd (Int32.le_refl _) c9)
            refine toQ hQ0 ?_
            exact RV hC hP hD hS [0, 1, 2, 3] (co, ftr, vB) rfl rfl (by decide) (by assumption) gX12_go_2.2.2.2.2.2.2.2.1
          | succ nP ihP =>
            intro kP vB H locs ls hkP hvB hPD hS hl
            refine Kan2 hPD (fun hP hD => ?_)
            refine lv_iload hx hb gX12_go_1.2.2.2.2.1 (lv_at0 hl) ?_
            refine lv_iload_n hx hb gX12_go_1.2.2.2.2.2.1 rfl (lv_at2 hl) ?_
            refine lv_icmp_ge (tgt := 55) hx hb gX12_go_1.2.2.2.2.2.2.1 (by decide) (fun c9 => absurd c9 (nI_ge (a := kP) (b := k9) (by omega) (by omega))) (fun _ => ?_)
            refine lv_aload_n hx hb gX12_go_1.2.2.2.2.2.2.2.1 rfl (lv_at1 hl) ?_
            refine gf_X12_60 hC rfl hK hP 0 rfl rfl gX12_go_1.2.2.2.2.2.2.2.2.1 ?_
            refine lv_iload hx hb gX12_go_1.2.2.2.2.2.2.2.2.2 (lv_at0 hl) ?_
            refine lv_aload_n hx hb gX12_go_2.1 rfl (lv_at1 hl) ?_
            refine gf_X12_57 hC rfl hK hP 0 rfl rfl gX12_go_2.2.1 ?_
            refine lv_iload hx hb gX12_go_2.2.2.1 (lv_at0 hl) ?_
            refine aldN hC hK hP 2 rfl (k := kP) (by omega) (Nat.le_of_ble_eq_true rfl) (v := ftr kP) rfl gX12_go_2.2.2.2.1 ?_
            refine lv_topi (fun x6346 ex6346 => ?_)
            refine astN hC hK hP hD hS 3 (ws' := [(h0, oX12 nw nk mhasKept nt mtaped nr mrowMany mroundOf mroundFrom mouts nm mfromHour mtoHour ns mfrom mto msort misFault mdeep mcoded mlines nl nc nF np ntr nb co nso nsi nit nsh nsf nss nrc mtraced mdealer mnumber mwhose msize misParted), (nw, iA G 1662 fnw), (ntr, iA G 7 ftr), (nb, iA G 7 (upd vB kP x6346))]) rfl (k := kP) (by omega) (Nat.le_of_ble_eq_true rfl) (rfl) gX12_go_2.2.2.2.2.1 (fun H locs hP hD hS => ?_)
            refine lv_iinc (v := nI (kP + 1)) (lv' := [(6, .int (nI (kP + 1))), (0, .ref h0), (1, .int (nI k9)), (2, .int (nI jl)), (3, .int ov), (4, .int cd), (5, .int co)]) hx hb gX12_go_2.2.2.2.2.2.1 hl (k := 0) rfl (nI_1 _) (by decide) rfl (fun ls hl => ?_)
            refine lv_goto (tgt := 29) hx hb gX12_go_2.2.2.2.2.2.2.1 (by decide) ?_
            exact ihP (kP + 1) (upd vB kP x6346) _ _ _ (by omega) (by first | assumption | exact Or.inl rfl | exact Or.inr rfl | exact B66.cp (by assumption) (by omega) (by assumption)) (And.intro hP hD) hS (lv_sub hl [0, 1, 2, 3, 4, 5, 6] rfl)
        exact keyP k9 0 fbe _ _ _ (by omega) (by first | assumption | exact Or.inl rfl | exact Or.inr rfl | exact B66.cp (by assumption) (by omega) (by assumption)) (And.intro hP hD) hS (lv_sub hl [0, 1, 2, 3, 4, 5, 6] rfl)
def K_m_go_0 (l : Launch) (G : GG) (h0 : Nat) (k9 : Nat) (jl : Nat) (ov : Int32) (cd : Int32) (co : Int32) (nw : Nat) (nk : Nat) (mhasKept : Int32) (nt : Nat) (mtaped : Int32) (nr : Nat) (mrowMany : Int32) (mroundOf : Int32) (mroundFrom : Int32) (mouts : Int32) (nm : Nat) (mfromHour : Int32) (mtoHour : Int32) (ns : Nat) (mfrom : Int32) (mto : Int32) (msort : Int32) (misFault : Int32) (mdeep : Int32) (mcoded : Int32) (mlines : Int32) (nl : Nat) (nc : Nat) (nF : Nat) (np : Nat) (ntr : Nat) (nb : Nat) (bc : Int32) (nso : Nat) (nsi : Nat) (nit : Nat) (nsh : Nat) (nsf : Nat) (nss : Nat) (nrc : Nat) (mtraced : Int32) (mdealer : Int32) (mnumber : Int32) (mwhose : Int32) (msize : Int32) (misParted : Int32) (fnw : Nat → Int32) (ftr : Nat → Int32) (fbe : Nat → Int32) : Prop := MV l G yX12_go cX12_go 9 (0 + 2) 0 0 [.ref h0, .int (nI k9), .int (nI jl), .int ov, .int cd, .int co] [(h0, oX12 nw nk mhasKept nt mtaped nr mrowMany mroundOf mroundFrom mouts nm mfromHour mtoHour ns mfrom mto msort misFault mdeep mcoded mlines nl nc nF np ntr nb bc nso nsi nit nsh nsf nss nrc mtraced mdealer mnumber mwhose msize misParted), (nw, iA G 1662 fnw), (ntr, iA G 7 ftr), (nb, iA G 7 fbe)] (fun u : Int32 × (Nat → Int32) × (Nat → Int32) => B66 u.2.1 u.2.2) (fun u : Int32 × (Nat → Int32) × (Nat → Int32) => [(h0, oX12 nw nk mhasKept nt mtaped nr mrowMany mroundOf mroundFrom mouts nm mfromHour mtoHour ns mfrom mto msort misFault mdeep mcoded mlines nl nc nF np ntr nb u.1 nso nsi nit nsh nsf nss nrc mtraced mdealer mnumber mwhose msize misParted), (nw, iA G 1662 fnw), (ntr, iA G 7 u.2.1), (nb, iA G 7 u.2.2)])
set_option maxHeartbeats 4000000 in
set_option maxRecDepth 100000 in
theorem m_go_0 (l : Launch) (G : GG) (h0 : Nat) (k9 : Nat) (jl : Nat) (ov : Int32) (cd : Int32) (co : Int32) (nw : Nat) (nk : Nat) (mhasKept : Int32) (nt : Nat) (mtaped : Int32) (nr : Nat) (mrowMany : Int32) (mroundOf : Int32) (mroundFrom : Int32) (mouts : Int32) (nm : Nat) (mfromHour : Int32) (mtoHour : Int32) (ns : Nat) (mfrom : Int32) (mto : Int32) (msort : Int32) (misFault : Int32) (mdeep : Int32) (mcoded : Int32) (mlines : Int32) (nl : Nat) (nc : Nat) (nF : Nat) (np : Nat) (ntr : Nat) (nb : Nat) (bc : Int32) (nso : Nat) (nsi : Nat) (nit : Nat) (nsh : Nat) (nsf : Nat) (nss : Nat) (nrc : Nat) (mtraced : Int32) (mdealer : Int32) (mnumber : Int32) (mwhose : Int32) (msize : Int32) (misParted : Int32) (fnw : Nat → Int32) (ftr : Nat → Int32) (fbe : Nat → Int32) (hjl : jl < 128) (hpc : pcnt jl ≤ 0) (hk9 : k9 + (0) ≤ 7) (hB6 : B66 ftr fbe) : K_m_go_0 l G h0 k9 jl ov cd co nw nk mhasKept nt mtaped nr mrowMany mroundOf mroundFrom mouts nm mfromHour mtoHour ns mfrom mto msort misFault mdeep mcoded mlines nl nc nF np ntr nb bc nso nsi nit nsh nsf nss nrc mtraced mdealer mnumber mwhose msize misParted fnw ftr fbe := by
  refine MV.start (by decide +kernel) (Nat.le_of_ble_eq_true rfl) ?_
  intro p e s m below meth c A ls hC hK hP hD hS hA hl
  refine absQ (fun Q0 hQ0 => ?_)
  have hl : lv_has ls 9 [(0, .ref h0), (1, .int (nI k9)), (2, .int (nI jl)), (3, .int ov), (4, .int cd), (5, .int co)] := hl
  refine Kan8 hC (fun hx hb hr hml hB hown hlocks hnm => ?_)
  refine lv_iload_n hx hb gX12_go_0.1 rfl (lv_at2 hl) ?_
  refine lv_if_ne (tgt := 56) hx hb gX12_go_0.2.1 (by decide) (fun c9 => absurd (congrArg nI (pcnt_0 hjl hpc)) c9) (fun _ => ?_)
  refine lv_aload_n hx hb gX12_go_0.2.2.1 rfl (lv_at0 hl) ?_
  refine gf_X12_320 hC rfl hK hP 0 rfl rfl gX12_go_0.2.2.2.1 ?_
  refine lv_if_lt (tgt := 20) hx hb gX12_go_0.2.2.2.2.1 (by decide) (fun c_8_6347 => ?_) (fun c_8_6347 => ?_)
  · refine lv_aload_n hx hb gX12_go_0.2.2.2.2.2.2.2.2.2 rfl (lv_at0 hl) ?_
    refine lv_iload hx hb gX12_go_1.1 (lv_at5 hl) ?_
    refine pf_X12_320 hC rfl hK hP hD hS 0 (ws' := [(h0, oX12 nw nk mhasKept nt mtaped nr mrowMany mroundOf mroundFrom mouts nm mfromHour mtoHour ns mfrom mto msort misFault mdeep mcoded mlines nl nc nF np ntr nb co nso nsi nit nsh nsf nss nrc mtraced mdealer mnumber mwhose msize misParted), (nw, iA G 1662 fnw), (ntr, iA G 7 ftr), (nb, iA G 7 fbe)]) rfl (Nat.le_of_ble_eq_true rfl) rfl rfl rfl gX12_go_1.2.1 (fun H locs hP hD hS => ?_)
    refine lv_iconst (v := 0) hx hb gX12_go_1.2.2.1 (by decide) ?_
    refine lv_istore (lv' := [(6, .int 0), (0, .ref h0), (1, .int (nI k9)), (2, .int (nI jl)), (3, .int ov), (4, .int cd), (5, .int co)]) hx hb gX12_go_1.2.2.2.1 hl (by decide) rfl (fun ls hl => ?_)
    have keyP : ∀ (nP kP : Nat) (vB : Nat → Int32) (H : Heap) (locs : List Loc) (ls : Array Slot), kP + nP = k9 → (B66 ftr vB) → va_PD G A [(h0, oX12 nw nk mhasKept nt mtaped nr mrowMany mroundOf mroundFrom mouts nm mfromHour mtoHour ns mfrom mto msort misFault mdeep mcoded mlines nl nc nF np ntr nb co nso nsi nit nsh nsf nss nrc mtraced mdealer mnumber mwhose msize misParted), (nw, iA G 1662 fnw), (ntr, iA G 7 ftr), (nb, iA G 7 vB)] H → va_S A s.heap H locs → lv_has ls 9 [(6, .int (nI kP)), (0, .ref h0), (1, .int (nI k9)), (2, .int (nI jl)), (3, .int ov), (4, .int cd), (5, .int co)] → W p l e (RM (0 + 2) 0 0) s m ([.ref h0, .int (nI k9), .int (nI jl), .int ov, .int cd, .int co] : List Value).toArray below meth c H locs 0 0 Q0 (F0 m 29 ls []) := by
      intro nP
      induction nP with
      | zero =>
        intro kP vB H locs ls hkP hvB hPD hS hl
        refine Kan2 hPD (fun hP hD => ?_)
        obtain rfl : k9 = kP := by omega
        have hl : lv_has ls 9 [(6, .int (nI k9)), (0, .ref h0), (1, .int (nI k9)), (2, .int (nI jl)), (3, .int ov), (4, .int cd), (5, .int co)] := hl
        refine lv_iload hx hb gX12_go_1.2.2.2.2.1 (lv_at0 hl) ?_
        refine lv_iload_n hx hb gX12_go_1.2.2.2.2.2.1 rfl (lv_at2 hl) ?_
        refine lv_icmp_ge (tgt := 55) hx hb gX12_go_1.2.2.2.2.2.2.1 (by decide) (fun _ => ?_) (fun c9 => absurd (Int32.le_refl _) c9)
        refine toQ hQ0 ?_
        exact RV hC hP hD hS [0, 1, 2, 3] (co, ftr, vB) rfl rfl (by decide) (by assumption) gX12_go_2.2.2.2.2.2.2.2.1
      | succ nP ihP =>
        intro kP vB H locs ls hkP hvB hPD hS hl
        refine Kan2 hPD (fun hP hD => ?_)
        refine lv_iload hx hb gX12_go_1.2.2.2.2.1 (lv_at0 hl) ?_
        refine lv_iload_n hx hb gX12_go_1.2.2.2.2.2.1 rfl (lv_at2 hl) ?_
        refine lv_icmp_ge (tgt := 55) hx hb gX12_go_1.2.2.2.2.2.2.1 (by decide) (fun c9 => absurd c9 (nI_ge (a := kP) (b := k9) (by omega) (by omega))) (fun _ => ?_)
        refine lv_aload_n hx hb gX12_go_1.2.2.2.2.2.2.2.1 rfl (lv_at1 hl) ?_
        refine gf_X12_60 hC rfl hK hP 0 rfl rfl gX12_go_1.2.2.2.2.2.2.2.2.1 ?_
        refine lv_iload hx hb gX12_go_1.2.2.2.2.2.2.2.2.2 (lv_at0 hl) ?_
        refine lv_aload_n hx hb gX12_go_2.1 rfl (lv_at1 hl) ?_
        refine gf_X12_57 hC rfl hK hP 0 rfl rfl gX12_go_2.2.1 ?_
        refine lv_iload hx hb gX12_go_2.2.2.1 (lv_at0 hl) ?_
        refine aldN hC hK hP 2 rfl (k := kP) (by omega) (Nat.le_of_ble_eq_true rfl) (v := ftr kP) rfl gX12_go_2.2.2.2.1 ?_
        refine lv_topi (fun x6348 ex6348 => ?_)
        refine astN hC hK hP hD hS 3 (ws' := [(h0, oX12 nw nk mhasKept nt mtaped nr mrowMany mroundOf mroundFrom mouts nm mfromHour mtoHour ns mfrom mto msort misFault mdeep mcoded mlines nl nc nF np ntr nb co nso nsi nit nsh nsf nss nrc mtraced mdealer mnumber mwhose msize misParted), (nw, iA G 1662 fnw), (ntr, iA G 7 ftr), (nb, iA G 7 (upd vB kP x6348))]) rfl (k := kP) (by omega) (Nat.le_of_ble_eq_true rfl) (rfl) gX12_go_2.2.2.2.2.1 (fun H locs hP hD hS => ?_)
        refine lv_iinc (v := nI (kP + 1)) (lv' := [(6, .int (nI (kP + 1))), (0, .ref h0), (1, .int (nI k9)), (2, .int (nI jl)), (3, .int ov), (4, .int cd), (5, .int co)]) hx hb gX12_go_2.2.2.2.2.2.1 hl (k := 0) rfl (nI_1 _) (by decide) rfl (fun ls hl => ?_)
        refine lv_goto (tgt := 29) hx hb gX12_go_2.2.2.2.2.2.2.1 (by decide) ?_
        exact ihP (kP + 1) (upd vB kP x6348) _ _ _ (by omega) (by first | assumption | exact Or.inl rfl | exact Or.inr rfl | exact B66.cp (by assumption) (by omega) (by assumption)) (And.intro hP hD) hS (lv_sub hl [0, 1, 2, 3, 4, 5, 6] rfl)
    exact keyP k9 0 fbe _ _ _ (by omega) (by first | assumption | exact Or.inl rfl | exact Or.inr rfl | exact B66.cp (by assumption) (by omega) (by assumption)) (And.intro hP hD) hS (lv_sub hl [0, 1, 2, 3, 4, 5, 6] rfl)
  · refine lv_iload hx hb gX12_go_0.2.2.2.2.2.1 (lv_at5 hl) ?_
    refine lv_aload_n hx hb gX12_go_0.2.2.2.2.2.2.1 rfl (lv_at0 hl) ?_
    refine gf_X12_320 hC rfl hK hP 0 rfl rfl gX12_go_0.2.2.2.2.2.2.2.1 ?_
    refine lv_icmp_ge (tgt := 55) hx hb gX12_go_0.2.2.2.2.2.2.2.2.1 (by decide) (fun c_17_6349 => ?_) (fun c_17_6349 => ?_)
    · refine toQ hQ0 ?_
      exact RV hC hP hD hS [0, 1, 2, 3] (bc, ftr, fbe) rfl rfl (by decide) (by assumption) gX12_go_2.2.2.2.2.2.2.2.1
    · refine lv_aload_n hx hb gX12_go_0.2.2.2.2.2.2.2.2.2 rfl (lv_at0 hl) ?_
      refine lv_iload hx hb gX12_go_1.1 (lv_at5 hl) ?_
      refine pf_X12_320 hC rfl hK hP hD hS 0 (ws' := [(h0, oX12 nw nk mhasKept nt mtaped nr mrowMany mroundOf mroundFrom mouts nm mfromHour mtoHour ns mfrom mto msort misFault mdeep mcoded mlines nl nc nF np ntr nb co nso nsi nit nsh nsf nss nrc mtraced mdealer mnumber mwhose msize misParted), (nw, iA G 1662 fnw), (ntr, iA G 7 ftr), (nb, iA G 7 fbe)]) rfl (Nat.le_of_ble_eq_true rfl) rfl rfl rfl gX12_go_1.2.1 (fun H locs hP hD hS => ?_)
      refine lv_iconst (v := 0) hx hb gX12_go_1.2.2.1 (by decide) ?_
      refine lv_istore (lv' := [(6, .int 0), (0, .ref h0), (1, .int (nI k9)), (2, .int (nI jl)), (3, .int ov), (4, .int cd), (5, .int co)]) hx hb gX12_go_1.2.2.2.1 hl (by decide) rfl (fun ls hl => ?_)
      have keyP : ∀ (nP kP : Nat) (vB : Nat → Int32) (H : Heap) (locs : List Loc) (ls : Array Slot), kP + nP = k9 → (B66 ftr vB) → va_PD G A [(h0, oX12 nw nk mhasKept nt mtaped nr mrowMany mroundOf mroundFrom mouts nm mfromHour mtoHour ns mfrom mto msort misFault mdeep mcoded mlines nl nc nF np ntr nb co nso nsi nit nsh nsf nss nrc mtraced mdealer mnumber mwhose msize misParted), (nw, iA G 1662 fnw), (ntr, iA G 7 ftr), (nb, iA G 7 vB)] H → va_S A s.heap H locs → lv_has ls 9 [(6, .int (nI kP)), (0, .ref h0), (1, .int (nI k9)), (2, .int (nI jl)), (3, .int ov), (4, .int cd), (5, .int co)] → W p l e (RM (0 + 2) 0 0) s m ([.ref h0, .int (nI k9), .int (nI jl), .int ov, .int cd, .int co] : List Value).toArray below meth c H locs 0 0 Q0 (F0 m 29 ls []) := by
        intro nP
        induction nP with
        | zero =>
          intro kP vB H locs ls hkP hvB hPD hS hl
          refine Kan2 hPD (fun hP hD => ?_)
          obtain rfl : k9 = kP := by omega
          have hl : lv_has ls 9 [(6, .int (nI k9)), (0, .ref h0), (1, .int (nI k9)), (2, .int (nI jl)), (3, .int ov), (4, .int cd), (5, .int co)] := hl
          refine lv_iload hx hb gX12_go_1.2.2.2.2.1 (lv_at0 hl) ?_
          refine lv_iload_n hx hb gX12_go_1.2.2.2.2.2.1 rfl (lv_at2 hl) ?_
          refine lv_icmp_ge (tgt := 55) hx hb gX12_go_1.2.2.2.2.2.2.1 (by decide) (fun _ => ?_) (fun c9 => absurd (Int32.le_refl _) c9)
          refine toQ hQ0 ?_
          exact RV hC hP hD hS [0, 1, 2, 3] (co, ftr, vB) rfl rfl (by decide) (by assumption) gX12_go_2.2.2.2.2.2.2.2.1
        | succ nP ihP =>
          intro kP vB H locs ls hkP hvB hPD hS hl
          refine Kan2 hPD (fun hP hD => ?_)
          refine lv_iload hx hb gX12_go_1.2.2.2.2.1 (lv_at0 hl) ?_
          refine lv_iload_n hx hb gX12_go_1.2.2.2.2.2.1 rfl (lv_at2 hl) ?_
          refine lv_icmp_ge (tgt := 55) hx hb gX12_go_1.2.2.2.2.2.2.1 (by decide) (fun c9 => absurd c9 (nI_ge (a := kP) (b := k9) (by omega) (by omega))) (fun _ => ?_)
          refine lv_aload_n hx hb gX12_go_1.2.2.2.2.2.2.2.1 rfl (lv_at1 hl) ?_
          refine gf_X12_60 hC rfl hK hP 0 rfl rfl gX12_go_1.2.2.2.2.2.2.2.2.1 ?_
          refine lv_iload hx hb gX12_go_1.2.2.2.2.2.2.2.2.2 (lv_at0 hl) ?_
          refine lv_aload_n hx hb gX12_go_2.1 rfl (lv_at1 hl) ?_
          refine gf_X12_57 hC rfl hK hP 0 rfl rfl gX12_go_2.2.1 ?_
          refine lv_iload hx hb gX12_go_2.2.2.1 (lv_at0 hl) ?_
          refine aldN hC hK hP 2 rfl (k := kP) (by omega) (Nat.le_of_ble_eq_true rfl) (v := ftr kP) rfl gX12_go_2.2.2.2.1 ?_
          refine lv_topi (fun x6350 ex6350 => ?_)
          refine astN hC hK hP hD hS 3 (ws' := [(h0, oX12 nw nk mhasKept nt mtaped nr mrowMany mroundOf mroundFrom mouts nm mfromHour mtoHour ns mfrom mto msort misFault mdeep mcoded mlines nl nc nF np ntr nb co nso nsi nit nsh nsf nss nrc mtraced mdealer mnumber mwhose msize misParted), (nw, iA G 1662 fnw), (ntr, iA G 7 ftr), (nb, iA G 7 (upd vB kP x6350))]) rfl (k := kP) (by omega) (Nat.le_of_ble_eq_true rfl) (rfl) gX12_go_2.2.2.2.2.1 (fun H locs hP hD hS => ?_)
          refine lv_iinc (v := nI (kP + 1)) (lv' := [(6, .int (nI (kP + 1))), (0, .ref h0), (1, .int (nI k9)), (2, .int (nI jl)), (3, .int ov), (4, .int cd), (5, .int co)]) hx hb gX12_go_2.2.2.2.2.2.1 hl (k := 0) rfl (nI_1 _) (by decide) rfl (fun ls hl => ?_)
          refine lv_goto (tgt := 29) hx hb gX12_go_2.2.2.2.2.2.2.1 (by decide) ?_
          exact ihP (kP + 1) (upd vB kP x6350) _ _ _ (by omega) (by first | assumption | exact Or.inl rfl | exact Or.inr rfl | exact B66.cp (by assumption) (by omega) (by assumption)) (And.intro hP hD) hS (lv_sub hl [0, 1, 2, 3, 4, 5, 6] rfl)
      exact keyP k9 0 fbe _ _ _ (by omega) (by first | assumption | exact Or.inl rfl | exact Or.inr rfl | exact B66.cp (by assumption) (by omega) (by assumption)) (And.intro hP hD) hS (lv_sub hl [0, 1, 2, 3, 4, 5, 6] rfl)
theorem m_go (l : Launch) (G : GG) : ∀ (mn : Nat) (h0 : Nat) (k9 : Nat) (jl : Nat) (ov : Int32) (cd : Int32) (co : Int32) (nw : Nat) (nk : Nat) (mhasKept : Int32) (nt : Nat) (mtaped : Int32) (nr : Nat) (mrowMany : Int32) (mroundOf : Int32) (mroundFrom : Int32) (mouts : Int32) (nm : Nat) (mfromHour : Int32) (mtoHour : Int32) (ns : Nat) (mfrom : Int32) (mto : Int32) (msort : Int32) (misFault : Int32) (mdeep : Int32) (mcoded : Int32) (mlines : Int32) (nl : Nat) (nc : Nat) (nF : Nat) (np : Nat) (ntr : Nat) (nb : Nat) (bc : Int32) (nso : Nat) (nsi : Nat) (nit : Nat) (nsh : Nat) (nsf : Nat) (nss : Nat) (nrc : Nat) (mtraced : Int32) (mdealer : Int32) (mnumber : Int32) (mwhose : Int32) (msize : Int32) (misParted : Int32) (fnw : Nat → Int32) (ftr : Nat → Int32) (fbe : Nat → Int32) (hjl : jl < 128) (hpc : pcnt jl ≤ mn) (hk9 : k9 + (mn) ≤ 7) (hB6 : B66 ftr fbe), MV l G yX12_go cX12_go 9 (mn + 2) 0 0 [.ref h0, .int (nI k9), .int (nI jl), .int ov, .int cd, .int co] [(h0, oX12 nw nk mhasKept nt mtaped nr mrowMany mroundOf mroundFrom mouts nm mfromHour mtoHour ns mfrom mto msort misFault mdeep mcoded mlines nl nc nF np ntr nb bc nso nsi nit nsh nsf nss nrc mtraced mdealer mnumber mwhose msize misParted), (nw, iA G 1662 fnw), (ntr, iA G 7 ftr), (nb, iA G 7 fbe)] (fun u : Int32 × (Nat → Int32) × (Nat → Int32) => B66 u.2.1 u.2.2) (fun u : Int32 × (Nat → Int32) × (Nat → Int32) => [(h0, oX12 nw nk mhasKept nt mtaped nr mrowMany mroundOf mroundFrom mouts nm mfromHour mtoHour ns mfrom mto msort misFault mdeep mcoded mlines nl nc nF np ntr nb u.1 nso nsi nit nsh nsf nss nrc mtraced mdealer mnumber mwhose msize misParted), (nw, iA G 1662 fnw), (ntr, iA G 7 u.2.1), (nb, iA G 7 u.2.2)]) := by
  intro mn
  induction mn with
  | zero => exact fun h0 k9 jl ov cd co nw nk mhasKept nt mtaped nr mrowMany mroundOf mroundFrom mouts nm mfromHour mtoHour ns mfrom mto msort misFault mdeep mcoded mlines nl nc nF np ntr nb bc nso nsi nit nsh nsf nss nrc mtraced mdealer mnumber mwhose msize misParted fnw ftr fbe h1 h2 h3 h4 => m_go_0 l G h0 k9 jl ov cd co nw nk mhasKept nt mtaped nr mrowMany mroundOf mroundFrom mouts nm mfromHour mtoHour ns mfrom mto msort misFault mdeep mcoded mlines nl nc nF np ntr nb bc nso nsi nit nsh nsf nss nrc mtraced mdealer mnumber mwhose msize misParted fnw ftr fbe h1 h2 h3 h4
  | succ mn ih => exact fun h0 k9 jl ov cd co nw nk mhasKept nt mtaped nr mrowMany mroundOf mroundFrom mouts nm mfromHour mtoHour ns mfrom mto msort misFault mdeep mcoded mlines nl nc nF np ntr nb bc nso nsi nit nsh nsf nss nrc mtraced mdealer mnumber mwhose msize misParted fnw ftr fbe h1 h2 h3 h4 => m_go_step l G mn h0 k9 jl ov cd co nw nk mhasKept nt mtaped nr mrowMany mroundOf mroundFrom mouts nm mfromHour mtoHour ns mfrom mto msort misFault mdeep mcoded mlines nl nc nF np ntr nb bc nso nsi nit nsh nsf nss nrc mtraced mdealer mnumber mwhose msize misParted fnw ftr fbe h1 h2 h3 h4 ih
def K_w_round (l : Launch) (G : GG) (h0 : Nat) (x1 : Int32) (nw : Nat) (nk : Nat) (mhasKept : Int32) (nt : Nat) (mtaped : Int32) (nr : Nat) (rm : Nat) (mroundOf : Int32) (mroundFrom : Int32) (mouts : Int32) (nm : Nat) (mfromHour : Int32) (mtoHour : Int32) (ns : Nat) (mfrom : Int32) (mto : Int32) (msort : Int32) (misFault : Int32) (mdeep : Int32) (mcoded : Int32) (mlines : Int32) (nl : Nat) (nc : Nat) (nF : Nat) (np : Nat) (ntr : Nat) (nb : Nat) (mbestCost : Int32) (nso : Nat) (nsi : Nat) (nit : Nat) (nsh : Nat) (nsf : Nat) (nss : Nat) (nrc : Nat) (mtraced : Int32) (mdealer : Int32) (mnumber : Int32) (mwhose : Int32) (msize : Int32) (misParted : Int32) (fnw : Nat → Int32) (ftr : Nat → Int32) (fbe : Nat → Int32) (fnr : Nat → Int32) : Prop := MI l G yX12_round cX12_round 4 (some .int) 10 0 0 [.ref h0, .int x1] [(h0, oX12 nw nk mhasKept nt mtaped nr (nI rm) mroundOf mroundFrom mouts nm mfromHour mtoHour ns mfrom mto msort misFault mdeep mcoded mlines nl nc nF np ntr nb mbestCost nso nsi nit nsh nsf nss nrc mtraced mdealer mnumber mwhose msize misParted), (nw, iA G 1662 fnw), (ntr, iA G 7 ftr), (nb, iA G 7 fbe), (nr, iA G 14 fnr)] (fun (r : Int32) (u : Int32 × Nat × Int32 × Int32 × (Nat → Int32) × (Nat → Int32) × (Nat → Int32)) => (True) ∧ (u.2.1 ≤ 7 ∧ B66 u.2.2.2.2.1 u.2.2.2.2.2.1)) (fun u : Int32 × Nat × Int32 × Int32 × (Nat → Int32) × (Nat → Int32) × (Nat → Int32) => [(h0, oX12 nw nk mhasKept nt mtaped nr (nI u.2.1) u.2.2.1 u.2.2.2.1 mouts nm mfromHour mtoHour ns mfrom mto msort misFault mdeep mcoded mlines nl nc nF np ntr nb u.1 nso nsi nit nsh nsf nss nrc mtraced mdealer mnumber mwhose msize misParted), (nw, iA G 1662 fnw), (ntr, iA G 7 u.2.2.2.2.1), (nb, iA G 7 u.2.2.2.2.2.1), (nr, iA G 14 u.2.2.2.2.2.2)])
set_option maxHeartbeats 4000000 in
set_option maxRecDepth 100000 in
theorem w_round (l : Launch) (G : GG) (h0 : Nat) (x1 : Int32) (nw : Nat) (nk : Nat) (mhasKept : Int32) (nt : Nat) (mtaped : Int32) (nr : Nat) (rm : Nat) (mroundOf : Int32) (mroundFrom : Int32) (mouts : Int32) (nm : Nat) (mfromHour : Int32) (mtoHour : Int32) (ns : Nat) (mfrom : Int32) (mto : Int32) (msort : Int32) (misFault : Int32) (mdeep : Int32) (mcoded : Int32) (mlines : Int32) (nl : Nat) (nc : Nat) (nF : Nat) (np : Nat) (ntr : Nat) (nb : Nat) (mbestCost : Int32) (nso : Nat) (nsi : Nat) (nit : Nat) (nsh : Nat) (nsf : Nat) (nss : Nat) (nrc : Nat) (mtraced : Int32) (mdealer : Int32) (mnumber : Int32) (mwhose : Int32) (msize : Int32) (misParted : Int32) (fnw : Nat → Int32) (ftr : Nat → Int32) (fbe : Nat → Int32) (fnr : Nat → Int32) (hrm : rm ≤ 7) (hB6 : B66 ftr fbe) (hN : NI fnw) : K_w_round l G h0 x1 nw nk mhasKept nt mtaped nr rm mroundOf mroundFrom mouts nm mfromHour mtoHour ns mfrom mto msort misFault mdeep mcoded mlines nl nc nF np ntr nb mbestCost nso nsi nit nsh nsf nss nrc mtraced mdealer mnumber mwhose msize misParted fnw ftr fbe fnr := by
  refine MI.start (by decide +kernel) (Nat.le_of_ble_eq_true rfl) ?_
  intro p e s m below meth c A ls hC hK hP hD hS hA hl
  refine absQ (fun Q0 hQ0 => ?_)
  have hl : lv_has ls 4 [(0, .ref h0), (1, .int x1)] := hl
  refine Kan8 hC (fun hx hb hr hml hB hown hlocks hnm => ?_)
  obtain ⟨k11, hk11, ek11⟩ := NI.nat hN (i := 11) (B := 7) (by decide +kernel) (by decide)
  refine lv_iload_n hx hb gX12_round_0.1 rfl (lv_at1 hl) ?_
  refine lv_if_lt (tgt := 17) hx hb gX12_round_0.2.1 (by decide) (fun c_1_6351 => ?_) (fun c_1_6351 => ?_)
  · refine lv_iconst (v := (-1)) hx hb gX12_round_1.1 (by decide) ?_
    refine toQ hQ0 ?_
    exact RI (v := (-1)) hC hP hD hS [0, 1, 2, 3, 4] (mbestCost, rm, mroundOf, mroundFrom, ftr, fbe, fnr) rfl rfl (by decide) (⟨trivial, ⟨by omega, by assumption⟩⟩) rfl gX12_round_1.2.1
  · refine lv_iload_n hx hb gX12_round_0.2.2.1 rfl (lv_at1 hl) ?_
    refine lv_iconst (v := 1) hx hb gX12_round_0.2.2.2.1 (by decide) ?_
    refine lv_aload_n hx hb gX12_round_0.2.2.2.2.1 rfl (lv_at0 hl) ?_
    refine gf_X12_9 hC rfl hK hP 0 rfl rfl gX12_round_0.2.2.2.2.2.1 ?_
    refine lv_bipush (v := 11) hx hb gX12_round_0.2.2.2.2.2.2.1 (by decide) ?_
    refine ald hC hK hP 1 rfl (vin (by decide +kernel)) (k := 11) (by decide +kernel) (v := nI k11) (ek11) gX12_round_0.2.2.2.2.2.2.2.1 ?_
    refine lv_ishl hx hb gX12_round_0.2.2.2.2.2.2.2.2.1 ?_
    refine lv_icmp_lt (tgt := 19) hx hb gX12_round_0.2.2.2.2.2.2.2.2.2 (by decide) (fun c_14_6352 => ?_) (fun c_14_6352 => ?_)
    · obtain ⟨jl, hjl, rfl⟩ := lt_shl (by omega) c_1_6351 c_14_6352
      refine lv_iload_n hx hb gX12_round_1.2.2.1 rfl (lv_at1 hl) ?_
      refine lv_if_ne (tgt := 26) hx hb gX12_round_1.2.2.2.1 (by decide) (fun c_20_6353 => ?_) (fun c_20_6353 => ?_)
      · refine lv_aload_n hx hb gX12_round_1.2.2.2.2.2.2.1 rfl (lv_at0 hl) ?_
        refine lv_iconst (v := (-1)) hx hb gX12_round_1.2.2.2.2.2.2.2.1 (by decide) ?_
        refine pf_X12_320 hC rfl hK hP hD hS 0 (ws' := [(h0, oX12 nw nk mhasKept nt mtaped nr (nI rm) mroundOf mroundFrom mouts nm mfromHour mtoHour ns mfrom mto msort misFault mdeep mcoded mlines nl nc nF np ntr nb (-1) nso nsi nit nsh nsf nss nrc mtraced mdealer mnumber mwhose msize misParted), (nw, iA G 1662 fnw), (ntr, iA G 7 ftr), (nb, iA G 7 fbe), (nr, iA G 14 fnr)]) rfl (Nat.le_of_ble_eq_true rfl) rfl rfl rfl gX12_round_1.2.2.2.2.2.2.2.2.1 (fun H locs hP hD hS => ?_)
        refine lv_aload_n hx hb gX12_round_1.2.2.2.2.2.2.2.2.2 rfl (lv_at0 hl) ?_
        refine lv_iconst (v := 0) hx hb gX12_round_2.1 (by decide) ?_
        refine lv_iload_n hx hb gX12_round_2.2.1 rfl (lv_at1 hl) ?_
        refine lv_iconst (v := 0) hx hb gX12_round_2.2.2.1 (by decide) ?_
        refine lv_iconst (v := 0) hx hb gX12_round_2.2.2.2.1 (by decide) ?_
        refine lv_iconst (v := 0) hx hb gX12_round_2.2.2.2.2.1 (by decide) ?_
        refine vV (wr := [(nr, iA G 14 fnr)]) hC hK hl hP hD hS hA (m_go l G 7 h0 0 jl 0 0 0 nw nk mhasKept nt mtaped nr (nI rm) mroundOf mroundFrom mouts nm mfromHour mtoHour ns mfrom mto msort misFault mdeep mcoded mlines nl nc nF np ntr nb (-1) nso nsi nit nsh nsf nss nrc mtraced mdealer mnumber mwhose msize misParted fnw ftr fbe (by omega) (pcnt_le _) (by omega) (hB6)) si_X12_323 [0, 1, 2, 3] [4] sm_0_1_2_3 fm_0_1_2_3 nd_0_1_2_3 sm_4 nd_4 dj_0_1_2_3__4 rfl rfl rfl rfl rfl (Nat.le_of_ble_eq_true rfl) ⟨Nat.le_of_ble_eq_true rfl, Nat.le_of_ble_eq_true rfl⟩ ⟨Nat.le_of_ble_eq_true rfl, Nat.le_of_ble_eq_true rfl⟩ gX12_round_2.2.2.2.2.2.1 (Ktu3 fun bc16356 gtr6357 gbe6358 => ?_)
        intro H locs hr6354 hP hD hS
        try dsimp only at hr6354
        refine Kpdr (ws := [(nr, iA G 14 fnr), (h0, oX12 nw nk mhasKept nt mtaped nr (nI rm) mroundOf mroundFrom mouts nm mfromHour mtoHour ns mfrom mto msort misFault mdeep mcoded mlines nl nc nF np ntr nb bc16356 nso nsi nit nsh nsf nss nrc mtraced mdealer mnumber mwhose msize misParted), (nw, iA G 1662 fnw), (ntr, iA G 7 gtr6357), (nb, iA G 7 gbe6358)]) hP hD (fun hP hD => ?_)
        have w6359 := hr6354
        refine lv_aload_n hx hb gX12_round_2.2.2.2.2.2.2.1 rfl (lv_at0 hl) ?_
        refine lv_iload_n hx hb gX12_round_2.2.2.2.2.2.2.2.1 rfl (lv_at1 hl) ?_
        refine pS hC hK hl (m_bits7 l G jl (by omega)) si_X12_110 rfl rfl (Nat.le_of_ble_eq_true rfl) rm_10_1_3 ⟨by first | exact Nat.le_of_ble_eq_true rfl | exact Nat.zero_le _, by first | exact Nat.le_of_ble_eq_true rfl | exact Nat.zero_le _⟩ gX12_round_2.2.2.2.2.2.2.2.2.1 (fun r6360 hr6360 => ?_)
        obtain ⟨b9_6361, hpx6361, rfl⟩ := hr6360
        try dsimp only at hpx6361
        refine pf_X12_327 hC rfl hK hP hD hS 1 (ws' := [(nr, iA G 14 fnr), (h0, oX12 nw nk mhasKept nt mtaped nr (nI b9_6361) mroundOf mroundFrom mouts nm mfromHour mtoHour ns mfrom mto msort misFault mdeep mcoded mlines nl nc nF np ntr nb bc16356 nso nsi nit nsh nsf nss nrc mtraced mdealer mnumber mwhose msize misParted), (nw, iA G 1662 fnw), (ntr, iA G 7 gtr6357), (nb, iA G 7 gbe6358)]) rfl (Nat.le_of_ble_eq_true rfl) rfl rfl rfl gX12_round_2.2.2.2.2.2.2.2.2.2 (fun H locs hP hD hS => ?_)
        refine lv_aload_n hx hb gX12_round_3.1 rfl (lv_at0 hl) ?_
        refine lv_iload_n hx hb gX12_round_3.2.1 rfl (lv_at1 hl) ?_
        refine pf_X12_22 hC rfl hK hP hD hS 1 (ws' := [(nr, iA G 14 fnr), (h0, oX12 nw nk mhasKept nt mtaped nr (nI b9_6361) (nI jl) mroundFrom mouts nm mfromHour mtoHour ns mfrom mto msort misFault mdeep mcoded mlines nl nc nF np ntr nb bc16356 nso nsi nit nsh nsf nss nrc mtraced mdealer mnumber mwhose msize misParted), (nw, iA G 1662 fnw), (ntr, iA G 7 gtr6357), (nb, iA G 7 gbe6358)]) rfl (Nat.le_of_ble_eq_true rfl) rfl rfl rfl gX12_round_3.2.2.1 (fun H locs hP hD hS => ?_)
        refine lv_aload_n hx hb gX12_round_3.2.2.2.1 rfl (lv_at0 hl) ?_
        refine lv_aload_n hx hb gX12_round_3.2.2.2.2.1 rfl (lv_at0 hl) ?_
        refine gf_X12_9 hC rfl hK hP 1 rfl rfl gX12_round_3.2.2.2.2.2.1 ?_
        refine lv_iconst (v := 0) hx hb gX12_round_3.2.2.2.2.2.2.1 (by decide) ?_
        refine ald hC hK hP 2 rfl (vin (by decide +kernel)) (k := 0) (by decide +kernel) (v := fnw 0) (rfl) gX12_round_3.2.2.2.2.2.2.2.1 ?_
        refine pf_X12_330 hC rfl hK hP hD hS 1 (ws' := [(nr, iA G 14 fnr), (h0, oX12 nw nk mhasKept nt mtaped nr (nI b9_6361) (nI jl) (fnw 0) mouts nm mfromHour mtoHour ns mfrom mto msort misFault mdeep mcoded mlines nl nc nF np ntr nb bc16356 nso nsi nit nsh nsf nss nrc mtraced mdealer mnumber mwhose msize misParted), (nw, iA G 1662 fnw), (ntr, iA G 7 gtr6357), (nb, iA G 7 gbe6358)]) rfl (Nat.le_of_ble_eq_true rfl) rfl rfl rfl gX12_round_3.2.2.2.2.2.2.2.2.1 (fun H locs hP hD hS => ?_)
        refine lv_aload_n hx hb gX12_round_3.2.2.2.2.2.2.2.2.2 rfl (lv_at0 hl) ?_
        refine gf_X12_330 hC rfl hK hP 1 rfl rfl gX12_round_4.1 ?_
        refine lv_istore_n (lv' := [(2, .int (fnw 0)), (0, .ref h0), (1, .int (nI jl))]) hx hb gX12_round_4.2.1 rfl hl (by decide) rfl (fun ls hl => ?_)
        refine lv_iconst (v := 0) hx hb gX12_round_4.2.2.1 (by decide) ?_
        refine lv_istore_n (lv' := [(3, .int 0), (2, .int (fnw 0)), (0, .ref h0), (1, .int (nI jl))]) hx hb gX12_round_4.2.2.2.1 rfl hl (by decide) rfl (fun ls hl => ?_)
        have keyP : ∀ (nP kP : Nat) (ov9 : Int32) (vR : Nat → Int32) (H : Heap) (locs : List Loc) (ls : Array Slot), kP + nP = b9_6361 → va_PD G A [(nr, iA G 14 vR), (h0, oX12 nw nk mhasKept nt mtaped nr (nI b9_6361) (nI jl) (fnw 0) mouts nm mfromHour mtoHour ns mfrom mto msort misFault mdeep mcoded mlines nl nc nF np ntr nb bc16356 nso nsi nit nsh nsf nss nrc mtraced mdealer mnumber mwhose msize misParted), (nw, iA G 1662 fnw), (ntr, iA G 7 gtr6357), (nb, iA G 7 gbe6358)] H → va_S A s.heap H locs → lv_has ls 4 [(3, .int (nI kP)), (2, .int ov9), (0, .ref h0), (1, .int (nI jl))] → W p l e (RM 10 0 0) s m ([.ref h0, .int (nI jl)] : List Value).toArray below meth c H locs 0 0 Q0 (F0 m 70 ls []) := by
          intro nP
          induction nP with
          | zero =>
            intro kP ov9 vR H locs ls hkP hPD hS hl
            refine Kan2 hPD (fun hP hD => ?_)
            obtain rfl : b9_6361 = kP := by omega
            have hl : lv_has ls 4 [(3, .int (nI b9_6361)), (2, .int ov9), (0, .ref h0), (1, .int (nI jl))] := hl
            refine lv_iload_n hx hb gX12_round_4.2.2.2.2.1 rfl (lv_at0 hl) ?_
            refine lv_aload_n hx hb gX12_round_4.2.2.2.2.2.1 rfl (lv_at2 hl) ?_
            refine gf_X12_327 hC rfl hK hP 1 rfl rfl gX12_round_4.2.2.2.2.2.2.1 ?_
            refine lv_icmp_ge (tgt := 129) hx hb gX12_round_4.2.2.2.2.2.2.2.1 (by decide) (fun _ => ?_) (fun c9 => absurd (Int32.le_refl _) c9)
            refine lv_aload_n hx hb gX12_round_8.2.2.2.1 rfl (lv_at2 hl) ?_
            refine gf_X12_320 hC rfl hK hP 1 rfl rfl gX12_round_8.2.2.2.2.1 ?_
            refine toQ hQ0 ?_
            exact RI (v := bc16356) hC hP hD hS [1, 2, 3, 4, 0] (bc16356, b9_6361, nI jl, fnw 0, gtr6357, gbe6358, vR) rfl rfl (by decide) (⟨trivial, ⟨by omega, by assumption⟩⟩) rfl gX12_round_8.2.2.2.2.2
          | succ nP ihP =>
            intro kP ov9 vR H locs ls hkP hPD hS hl
            refine Kan2 hPD (fun hP hD => ?_)
            refine lv_iload_n hx hb gX12_round_4.2.2.2.2.1 rfl (lv_at0 hl) ?_
            refine lv_aload_n hx hb gX12_round_4.2.2.2.2.2.1 rfl (lv_at2 hl) ?_
            refine gf_X12_327 hC rfl hK hP 1 rfl rfl gX12_round_4.2.2.2.2.2.2.1 ?_
            refine lv_icmp_ge (tgt := 129) hx hb gX12_round_4.2.2.2.2.2.2.2.1 (by decide) (fun c9 => absurd c9 (nI_ge (a := kP) (b := b9_6361) (by omega) (by omega))) (fun _ => ?_)
            refine lv_iload_n hx hb gX12_round_4.2.2.2.2.2.2.2.2.1 rfl (lv_at1 hl) ?_
            refine lv_aload_n hx hb gX12_round_4.2.2.2.2.2.2.2.2.2 rfl (lv_at2 hl) ?_
            refine gf_X12_9 hC rfl hK hP 1 rfl rfl gX12_round_5.1 ?_
            refine lv_sipush (v := 1648) hx hb gX12_round_5.2.1 (by decide) ?_
            refine lv_iconst (v := 2) hx hb gX12_round_5.2.2.1 (by decide) ?_
            refine lv_aload_n hx hb gX12_round_5.2.2.2.1 rfl (lv_at2 hl) ?_
            refine gf_X12_60 hC rfl hK hP 1 rfl rfl gX12_round_5.2.2.2.2.1 ?_
            refine lv_iload_n hx hb gX12_round_5.2.2.2.2.2.1 rfl (lv_at0 hl) ?_
            refine aldN hC hK hP 4 rfl (k := kP) (by omega) (Nat.le_of_ble_eq_true rfl) (v := gbe6358 kP) rfl gX12_round_5.2.2.2.2.2.2.1 ?_
            refine lv_topi (fun x6362 ex6362 => ?_)
            obtain ⟨jq9, hjq9, ejq9⟩ := (w6359).2 kP (by omega)
            refine eqi (x1 := nI jq9) (ex6362.trans ejq9) ?_
            refine lv_imul hx hb gX12_round_5.2.2.2.2.2.2.2.1 ?_
            refine eqi (x1 := nI (2 * jq9)) (nI_mul 2 jq9) ?_
            refine lv_iadd hx hb gX12_round_5.2.2.2.2.2.2.2.2.1 ?_
            refine eqi (x1 := nI (1648 + 2 * jq9)) (nI_add 1648 (2 * jq9)) ?_
            refine aldN hC hK hP 2 rfl (k := (1648 + 2 * jq9)) (by omega) (Nat.le_of_ble_eq_true rfl) (v := fnw (1648 + 2 * jq9)) rfl gX12_round_5.2.2.2.2.2.2.2.2.2 ?_
            refine lv_topi (fun x6363 ex6363 => ?_)
            refine lv_iadd hx hb gX12_round_6.1 ?_
            refine lv_istore_n (lv' := [(2, .int (ov9 + x6363)), (3, .int (nI kP)), (0, .ref h0), (1, .int (nI jl))]) hx hb gX12_round_6.2.1 rfl hl (by decide) rfl (fun ls hl => ?_)
            refine lv_aload_n hx hb gX12_round_6.2.2.1 rfl (lv_at2 hl) ?_
            refine gf_X12_19 hC rfl hK hP 1 rfl rfl gX12_round_6.2.2.2.1 ?_
            refine lv_iconst (v := 2) hx hb gX12_round_6.2.2.2.2.1 (by decide) ?_
            refine lv_iload_n hx hb gX12_round_6.2.2.2.2.2.1 rfl (lv_at1 hl) ?_
            refine lv_imul hx hb gX12_round_6.2.2.2.2.2.2.1 ?_
            refine eqi (x1 := nI (2 * kP)) (nI_mul 2 kP) ?_
            refine lv_aload_n hx hb gX12_round_6.2.2.2.2.2.2.2.1 rfl (lv_at2 hl) ?_
            refine gf_X12_60 hC rfl hK hP 1 rfl rfl gX12_round_6.2.2.2.2.2.2.2.2.1 ?_
            refine lv_iload_n hx hb gX12_round_6.2.2.2.2.2.2.2.2.2 rfl (lv_at1 hl) ?_
            refine aldN hC hK hP 4 rfl (k := kP) (by omega) (Nat.le_of_ble_eq_true rfl) (v := gbe6358 kP) rfl gX12_round_7.1 ?_
            refine lv_topi (fun x6364 ex6364 => ?_)
            refine astN hC hK hP hD hS 0 (ws' := [(nr, iA G 14 (upd vR (2 * kP) x6364)), (h0, oX12 nw nk mhasKept nt mtaped nr (nI b9_6361) (nI jl) (fnw 0) mouts nm mfromHour mtoHour ns mfrom mto msort misFault mdeep mcoded mlines nl nc nF np ntr nb bc16356 nso nsi nit nsh nsf nss nrc mtraced mdealer mnumber mwhose msize misParted), (nw, iA G 1662 fnw), (ntr, iA G 7 gtr6357), (nb, iA G 7 gbe6358)]) rfl (k := (2 * kP)) (by omega) (Nat.le_of_ble_eq_true rfl) (rfl) gX12_round_7.2.1 (fun H locs hP hD hS => ?_)
            refine lv_aload_n hx hb gX12_round_7.2.2.1 rfl (lv_at2 hl) ?_
            refine gf_X12_19 hC rfl hK hP 1 rfl rfl gX12_round_7.2.2.2.1 ?_
            refine lv_iconst (v := 2) hx hb gX12_round_7.2.2.2.2.1 (by decide) ?_
            refine lv_iload_n hx hb gX12_round_7.2.2.2.2.2.1 rfl (lv_at1 hl) ?_
            refine lv_imul hx hb gX12_round_7.2.2.2.2.2.2.1 ?_
            refine eqi (x1 := nI (2 * kP)) (nI_mul 2 kP) ?_
            refine lv_iconst (v := 1) hx hb gX12_round_7.2.2.2.2.2.2.2.1 (by decide) ?_
            refine lv_iadd hx hb gX12_round_7.2.2.2.2.2.2.2.2.1 ?_
            refine eqi (x1 := nI (2 * kP + 1)) (nI_add (2 * kP) 1) ?_
            refine lv_iload_n hx hb gX12_round_7.2.2.2.2.2.2.2.2.2 rfl (lv_at0 hl) ?_
            refine astN hC hK hP hD hS 0 (ws' := [(nr, iA G 14 (upd (upd vR (2 * kP) x6364) (2 * kP + 1) (ov9 + x6363))), (h0, oX12 nw nk mhasKept nt mtaped nr (nI b9_6361) (nI jl) (fnw 0) mouts nm mfromHour mtoHour ns mfrom mto msort misFault mdeep mcoded mlines nl nc nF np ntr nb bc16356 nso nsi nit nsh nsf nss nrc mtraced mdealer mnumber mwhose msize misParted), (nw, iA G 1662 fnw), (ntr, iA G 7 gtr6357), (nb, iA G 7 gbe6358)]) rfl (k := (2 * kP + 1)) (by omega) (Nat.le_of_ble_eq_true rfl) (rfl) gX12_round_8.1 (fun H locs hP hD hS => ?_)
            refine lv_iinc (v := nI (kP + 1)) (lv' := [(3, .int (nI (kP + 1))), (2, .int (ov9 + x6363)), (0, .ref h0), (1, .int (nI jl))]) hx hb gX12_round_8.2.1 hl (k := 1) rfl (nI_1 _) (by decide) rfl (fun ls hl => ?_)
            refine lv_goto (tgt := 70) hx hb gX12_round_8.2.2.1 (by decide) ?_
            exact ihP (kP + 1) (ov9 + x6363) (upd (upd vR (2 * kP) x6364) (2 * kP + 1) (ov9 + x6363)) _ _ _ (by omega) (And.intro hP hD) hS (lv_sub hl [0, 1, 2, 3] rfl)
        exact keyP b9_6361 0 (fnw 0) fnr _ _ _ (by omega) (And.intro hP hD) hS (lv_sub hl [0, 1, 2, 3] rfl)
      · refine lv_bipush (v := (-3)) hx hb gX12_round_1.2.2.2.2.1 (by decide) ?_
        refine toQ hQ0 ?_
        exact RI (v := (-3)) hC hP hD hS [0, 1, 2, 3, 4] (mbestCost, rm, mroundOf, mroundFrom, ftr, fbe, fnr) rfl rfl (by decide) (⟨trivial, ⟨by omega, by assumption⟩⟩) rfl gX12_round_1.2.2.2.2.2.1
    · refine lv_iconst (v := (-1)) hx hb gX12_round_1.1 (by decide) ?_
      refine toQ hQ0 ?_
      exact RI (v := (-1)) hC hP hD hS [0, 1, 2, 3, 4] (mbestCost, rm, mroundOf, mroundFrom, ftr, fbe, fnr) rfl rfl (by decide) (⟨trivial, ⟨by omega, by assumption⟩⟩) rfl gX12_round_1.2.1
def K_m_isRow (l : Launch) (G : GG) (h0 : Nat) (i9 : Int32) (wh : Int32) (nw : Nat) (nk : Nat) (mhasKept : Int32) (nt : Nat) (mtaped : Int32) (nr : Nat) (rm : Nat) (mroundOf : Int32) (mroundFrom : Int32) (mouts : Int32) (nm : Nat) (mfromHour : Int32) (mtoHour : Int32) (ns : Nat) (mfrom : Int32) (mto : Int32) (msort : Int32) (misFault : Int32) (mdeep : Int32) (mcoded : Int32) (mlines : Int32) (nl : Nat) (nc : Nat) (nF : Nat) (np : Nat) (ntr : Nat) (nb : Nat) (mbestCost : Int32) (nso : Nat) (nsi : Nat) (nit : Nat) (nsh : Nat) (nsf : Nat) (nss : Nat) (nrc : Nat) (mtraced : Int32) (mdealer : Int32) (mnumber : Int32) (mwhose : Int32) (msize : Int32) (misParted : Int32) : Prop := MP l G yX12_isRow cX12_isRow 3 (some .boolean) 2 [.ref h0, .int i9, .int wh] [(h0, oX12 nw nk mhasKept nt mtaped nr (nI rm) mroundOf mroundFrom mouts nm mfromHour mtoHour ns mfrom mto msort misFault mdeep mcoded mlines nl nc nF np ntr nb mbestCost nso nsi nit nsh nsf nss nrc mtraced mdealer mnumber mwhose msize misParted)] (fun r : Int32 => (r = 1 ∧ Hs i9 rm ∧ Wi wh 0 1) ∨ r = 0)
set_option maxHeartbeats 4000000 in
set_option maxRecDepth 100000 in
theorem m_isRow (l : Launch) (G : GG) (h0 : Nat) (i9 : Int32) (wh : Int32) (nw : Nat) (nk : Nat) (mhasKept : Int32) (nt : Nat) (mtaped : Int32) (nr : Nat) (rm : Nat) (mroundOf : Int32) (mroundFrom : Int32) (mouts : Int32) (nm : Nat) (mfromHour : Int32) (mtoHour : Int32) (ns : Nat) (mfrom : Int32) (mto : Int32) (msort : Int32) (misFault : Int32) (mdeep : Int32) (mcoded : Int32) (mlines : Int32) (nl : Nat) (nc : Nat) (nF : Nat) (np : Nat) (ntr : Nat) (nb : Nat) (mbestCost : Int32) (nso : Nat) (nsi : Nat) (nit : Nat) (nsh : Nat) (nsf : Nat) (nss : Nat) (nrc : Nat) (mtraced : Int32) (mdealer : Int32) (mnumber : Int32) (mwhose : Int32) (msize : Int32) (misParted : Int32) (hrm : rm ≤ 7) : K_m_isRow l G h0 i9 wh nw nk mhasKept nt mtaped nr rm mroundOf mroundFrom mouts nm mfromHour mtoHour ns mfrom mto msort misFault mdeep mcoded mlines nl nc nF np ntr nb mbestCost nso nsi nit nsh nsf nss nrc mtraced mdealer mnumber mwhose msize misParted := by
  refine MP.start (by decide +kernel) (Nat.le_of_ble_eq_true rfl) ?_
  intro p e s m below meth c ls hC hK hP hD hl
  refine absQ (fun Q0 hQ0 => ?_)
  have hl : lv_has ls 3 [(0, .ref h0), (1, .int i9), (2, .int wh)] := hl
  refine Kan8 hC (fun hx hb hr hml hB hown hlocks hnm => ?_)
  refine lv_iload_n hx hb gX12_isRow_0.1 rfl (lv_at1 hl) ?_
  refine lv_iconst (v := 0) hx hb gX12_isRow_0.2.1 (by decide) ?_
  refine lv_aload_n hx hb gX12_isRow_0.2.2.1 rfl (lv_at0 hl) ?_
  refine gf_X12_327 hC rfl hK hP 0 rfl rfl gX12_isRow_0.2.2.2.1 ?_
  refine lv_iconst (v := 1) hx hb gX12_isRow_0.2.2.2.2.1 (by decide) ?_
  refine lv_isub hx hb gX12_isRow_0.2.2.2.2.2.1 ?_
  refine eqi (x1 := (nI rm) - 1) (rfl) ?_
  refine pS hC hK hl (m_within l G i9 0 ((nI rm) - 1)) si_X12_84 rfl rfl (Nat.le_of_ble_eq_true rfl) rm_2_1_3 ⟨by first | exact Nat.le_of_ble_eq_true rfl | exact Nat.zero_le _, by first | exact Nat.le_of_ble_eq_true rfl | exact Nat.zero_le _⟩ gX12_isRow_0.2.2.2.2.2.2.1 (Kors (Keqa fun a6366 => ?_) (Keqa fun a6366 => ?_))
  · refine lv_if_eq (tgt := 27) hx hb gX12_isRow_0.2.2.2.2.2.2.2.1 (by decide) (fun c9 => absurd c9 (by decide)) (fun _ => ?_)
    refine lv_iload_n hx hb gX12_isRow_0.2.2.2.2.2.2.2.2.1 rfl (lv_at2 hl) ?_
    refine lv_iconst (v := 0) hx hb gX12_isRow_0.2.2.2.2.2.2.2.2.2 (by decide) ?_
    refine lv_iconst (v := 1) hx hb gX12_isRow_1.1 (by decide) ?_
    refine pS hC hK hl (m_within l G wh 0 1) si_X12_84 rfl rfl (Nat.le_of_ble_eq_true rfl) rm_2_1_3 ⟨by first | exact Nat.le_of_ble_eq_true rfl | exact Nat.zero_le _, by first | exact Nat.le_of_ble_eq_true rfl | exact Nat.zero_le _⟩ gX12_isRow_1.2.1 (Kors (Keqa fun a6368 => ?_) (Keqa fun a6368 => ?_))
    · refine lv_if_eq (tgt := 27) hx hb gX12_isRow_1.2.2.1 (by decide) (fun c9 => absurd c9 (by decide)) (fun _ => ?_)
      refine lv_iconst (v := 1) hx hb gX12_isRow_1.2.2.2.1 (by decide) ?_
      refine lv_goto (tgt := 28) hx hb gX12_isRow_1.2.2.2.2.1 (by decide) ?_
      refine toQ hQ0 ?_
      exact RP (v := 1) hC (Or.inl ⟨rfl, (WiHs (by omega)).mp a6366, a6368⟩) (by decide +kernel) gX12_isRow_1.2.2.2.2.2.2
    · refine lv_if_eq (tgt := 27) hx hb gX12_isRow_1.2.2.1 (by decide) (fun _ => ?_) (fun c9 => absurd (by decide) c9)
      refine lv_iconst (v := 0) hx hb gX12_isRow_1.2.2.2.2.2.1 (by decide) ?_
      refine toQ hQ0 ?_
      exact RP (v := 0) hC (Or.inr rfl) (by decide +kernel) gX12_isRow_1.2.2.2.2.2.2
  · refine lv_if_eq (tgt := 27) hx hb gX12_isRow_0.2.2.2.2.2.2.2.1 (by decide) (fun _ => ?_) (fun c9 => absurd (by decide) c9)
    refine lv_iconst (v := 0) hx hb gX12_isRow_1.2.2.2.2.2.1 (by decide) ?_
    refine toQ hQ0 ?_
    exact RP (v := 0) hC (Or.inr rfl) (by decide +kernel) gX12_isRow_1.2.2.2.2.2.2
def K_r_row (l : Launch) (G : GG) (h0 : Nat) (x1 : Int32) (x2 : Int32) (nw : Nat) (nk : Nat) (mhasKept : Int32) (nt : Nat) (mtaped : Int32) (nr : Nat) (rm : Nat) (mroundOf : Int32) (mroundFrom : Int32) (mouts : Int32) (nm : Nat) (mfromHour : Int32) (mtoHour : Int32) (ns : Nat) (mfrom : Int32) (mto : Int32) (msort : Int32) (misFault : Int32) (mdeep : Int32) (mcoded : Int32) (mlines : Int32) (nl : Nat) (nc : Nat) (nF : Nat) (np : Nat) (ntr : Nat) (nb : Nat) (mbestCost : Int32) (nso : Nat) (nsi : Nat) (nit : Nat) (nsh : Nat) (nsf : Nat) (nss : Nat) (nrc : Nat) (mtraced : Int32) (mdealer : Int32) (mnumber : Int32) (mwhose : Int32) (msize : Int32) (misParted : Int32) (fnr : Nat → Int32) : Prop := MP l G yX12_row cX12_row 3 (some .int) 3 [.ref h0, .int x1, .int x2] [(h0, oX12 nw nk mhasKept nt mtaped nr (nI rm) mroundOf mroundFrom mouts nm mfromHour mtoHour ns mfrom mto msort misFault mdeep mcoded mlines nl nc nF np ntr nb mbestCost nso nsi nit nsh nsf nss nrc mtraced mdealer mnumber mwhose msize misParted), (nr, iA G 14 fnr)] (fun r : Int32 => True)
set_option maxHeartbeats 4000000 in
set_option maxRecDepth 100000 in
theorem r_row (l : Launch) (G : GG) (h0 : Nat) (x1 : Int32) (x2 : Int32) (nw : Nat) (nk : Nat) (mhasKept : Int32) (nt : Nat) (mtaped : Int32) (nr : Nat) (rm : Nat) (mroundOf : Int32) (mroundFrom : Int32) (mouts : Int32) (nm : Nat) (mfromHour : Int32) (mtoHour : Int32) (ns : Nat) (mfrom : Int32) (mto : Int32) (msort : Int32) (misFault : Int32) (mdeep : Int32) (mcoded : Int32) (mlines : Int32) (nl : Nat) (nc : Nat) (nF : Nat) (np : Nat) (ntr : Nat) (nb : Nat) (mbestCost : Int32) (nso : Nat) (nsi : Nat) (nit : Nat) (nsh : Nat) (nsf : Nat) (nss : Nat) (nrc : Nat) (mtraced : Int32) (mdealer : Int32) (mnumber : Int32) (mwhose : Int32) (msize : Int32) (misParted : Int32) (fnr : Nat → Int32) (hrm : rm ≤ 7) : K_r_row l G h0 x1 x2 nw nk mhasKept nt mtaped nr rm mroundOf mroundFrom mouts nm mfromHour mtoHour ns mfrom mto msort misFault mdeep mcoded mlines nl nc nF np ntr nb mbestCost nso nsi nit nsh nsf nss nrc mtraced mdealer mnumber mwhose msize misParted fnr := by
  refine MP.start (by decide +kernel) (Nat.le_of_ble_eq_true rfl) ?_
  intro p e s m below meth c ls hC hK hP hD hl
  refine absQ (fun Q0 hQ0 => ?_)
  have hl : lv_has ls 3 [(0, .ref h0), (1, .int x1), (2, .int x2)] := hl
  refine Kan8 hC (fun hx hb hr hml hB hown hlocks hnm => ?_)
  refine lv_aload_n hx hb gX12_row_0.1 rfl (lv_at0 hl) ?_
  refine lv_iload_n hx hb gX12_row_0.2.1 rfl (lv_at1 hl) ?_
  refine lv_iload_n hx hb gX12_row_0.2.2.1 rfl (lv_at2 hl) ?_
  refine pV hC hK hl hP hD (m_isRow l G h0 x1 x2 nw nk mhasKept nt mtaped nr rm mroundOf mroundFrom mouts nm mfromHour mtoHour ns mfrom mto msort misFault mdeep mcoded mlines nl nc nF np ntr nb mbestCost nso nsi nit nsh nsf nss nrc mtraced mdealer mnumber mwhose msize misParted (hrm)) si_X12_333 [0] sm_0 fm_0 nd_0 rfl rfl rfl rfl rfl (Nat.le_of_ble_eq_true rfl) rm_3_2_3 ⟨by first | exact Nat.le_of_ble_eq_true rfl | exact Nat.zero_le _, by first | exact Nat.le_of_ble_eq_true rfl | exact Nat.zero_le _⟩ gX12_row_0.2.2.2.1 (Kors (Keqa fun a6370 => ?_) (Keqr ?_))
  · refine lv_if_eq (tgt := 22) hx hb gX12_row_0.2.2.2.2.1 (by decide) (fun c9 => absurd c9 (by decide)) (fun _ => ?_)
    obtain ⟨hrw1, hrw2⟩ := a6370
    obtain ⟨jr, hjr, rfl⟩ := Hs_nat (by omega) hrw1
    obtain ⟨jw, hjw, rfl⟩ := Wi_nat (N := 1) (by decide) hrw2
    refine lv_aload_n hx hb gX12_row_0.2.2.2.2.2.1 rfl (lv_at0 hl) ?_
    refine gf_X12_19 hC rfl hK hP 0 rfl rfl gX12_row_0.2.2.2.2.2.2.1 ?_
    refine lv_iconst (v := 2) hx hb gX12_row_0.2.2.2.2.2.2.2.1 (by decide) ?_
    refine lv_iload_n hx hb gX12_row_0.2.2.2.2.2.2.2.2.1 rfl (lv_at1 hl) ?_
    refine lv_imul hx hb gX12_row_0.2.2.2.2.2.2.2.2.2 ?_
    refine eqi (x1 := nI (2 * jr)) (nI_mul 2 jr) ?_
    refine lv_iload_n hx hb gX12_row_1.1 rfl (lv_at2 hl) ?_
    refine lv_iadd hx hb gX12_row_1.2.1 ?_
    refine eqi (x1 := nI (2 * jr + jw)) (nI_add (2 * jr) jw) ?_
    refine aldN hC hK hP 1 rfl (k := (2 * jr + jw)) (by omega) (Nat.le_of_ble_eq_true rfl) (v := fnr (2 * jr + jw)) rfl gX12_row_1.2.2.1 ?_
    refine lv_topi (fun x6371 ex6371 => ?_)
    refine lv_goto (tgt := 24) hx hb gX12_row_1.2.2.2.1 (by decide) ?_
    refine toQ hQ0 ?_
    exact RP (v := x6371) hC (trivial) rfl gX12_row_1.2.2.2.2.2
  · refine lv_if_eq (tgt := 22) hx hb gX12_row_0.2.2.2.2.1 (by decide) (fun _ => ?_) (fun c9 => absurd (by decide) c9)
    refine lv_bipush (v := (-9)) hx hb gX12_row_1.2.2.2.2.1 (by decide) ?_
    refine toQ hQ0 ?_
    exact RP (v := (-9)) hC (trivial) rfl gX12_row_1.2.2.2.2.2
def K_w_alterRow (l : Launch) (G : GG) (h0 : Nat) (x1 : Int32) (x2 : Int32) (x3 : Int32) (nw : Nat) (nk : Nat) (mhasKept : Int32) (nt : Nat) (mtaped : Int32) (nr : Nat) (rm : Nat) (mroundOf : Int32) (mroundFrom : Int32) (mouts : Int32) (nm : Nat) (mfromHour : Int32) (mtoHour : Int32) (ns : Nat) (mfrom : Int32) (mto : Int32) (msort : Int32) (misFault : Int32) (mdeep : Int32) (mcoded : Int32) (mlines : Int32) (nl : Nat) (nc : Nat) (nF : Nat) (np : Nat) (ntr : Nat) (nb : Nat) (mbestCost : Int32) (nso : Nat) (nsi : Nat) (nit : Nat) (nsh : Nat) (nsf : Nat) (nss : Nat) (nrc : Nat) (mtraced : Int32) (mdealer : Int32) (mnumber : Int32) (mwhose : Int32) (msize : Int32) (misParted : Int32) (fnr : Nat → Int32) : Prop := MI l G yX12_alterRow cX12_alterRow 5 (some .int) 3 0 0 [.ref h0, .int x1, .int x2, .int x3] [(h0, oX12 nw nk mhasKept nt mtaped nr (nI rm) mroundOf mroundFrom mouts nm mfromHour mtoHour ns mfrom mto msort misFault mdeep mcoded mlines nl nc nF np ntr nb mbestCost nso nsi nit nsh nsf nss nrc mtraced mdealer mnumber mwhose msize misParted), (nr, iA G 14 fnr)] (fun (r : Int32) (u : (Nat → Int32)) => (True)) (fun u : (Nat → Int32) => [(h0, oX12 nw nk mhasKept nt mtaped nr (nI rm) mroundOf mroundFrom mouts nm mfromHour mtoHour ns mfrom mto msort misFault mdeep mcoded mlines nl nc nF np ntr nb mbestCost nso nsi nit nsh nsf nss nrc mtraced mdealer mnumber mwhose msize misParted), (nr, iA G 14 u)])
set_option maxHeartbeats 4000000 in
set_option maxRecDepth 100000 in
theorem w_alterRow (l : Launch) (G : GG) (h0 : Nat) (x1 : Int32) (x2 : Int32) (x3 : Int32) (nw : Nat) (nk : Nat) (mhasKept : Int32) (nt : Nat) (mtaped : Int32) (nr : Nat) (rm : Nat) (mroundOf : Int32) (mroundFrom : Int32) (mouts : Int32) (nm : Nat) (mfromHour : Int32) (mtoHour : Int32) (ns : Nat) (mfrom : Int32) (mto : Int32) (msort : Int32) (misFault : Int32) (mdeep : Int32) (mcoded : Int32) (mlines : Int32) (nl : Nat) (nc : Nat) (nF : Nat) (np : Nat) (ntr : Nat) (nb : Nat) (mbestCost : Int32) (nso : Nat) (nsi : Nat) (nit : Nat) (nsh : Nat) (nsf : Nat) (nss : Nat) (nrc : Nat) (mtraced : Int32) (mdealer : Int32) (mnumber : Int32) (mwhose : Int32) (msize : Int32) (misParted : Int32) (fnr : Nat → Int32) (hrm : rm ≤ 7) : K_w_alterRow l G h0 x1 x2 x3 nw nk mhasKept nt mtaped nr rm mroundOf mroundFrom mouts nm mfromHour mtoHour ns mfrom mto msort misFault mdeep mcoded mlines nl nc nF np ntr nb mbestCost nso nsi nit nsh nsf nss nrc mtraced mdealer mnumber mwhose msize misParted fnr := by
  refine MI.start (by decide +kernel) (Nat.le_of_ble_eq_true rfl) ?_
  intro p e s m below meth c A ls hC hK hP hD hS hA hl
  refine absQ (fun Q0 hQ0 => ?_)
  have hl : lv_has ls 5 [(0, .ref h0), (1, .int x1), (2, .int x2), (3, .int x3)] := hl
  refine Kan8 hC (fun hx hb hr hml hB hown hlocks hnm => ?_)
  refine lv_aload_n hx hb gX12_alterRow_0.1 rfl (lv_at0 hl) ?_
  refine lv_iload_n hx hb gX12_alterRow_0.2.1 rfl (lv_at1 hl) ?_
  refine lv_iload_n hx hb gX12_alterRow_0.2.2.1 rfl (lv_at2 hl) ?_
  refine pV hC hK hl hP hD (m_isRow l G h0 x1 x2 nw nk mhasKept nt mtaped nr rm mroundOf mroundFrom mouts nm mfromHour mtoHour ns mfrom mto msort misFault mdeep mcoded mlines nl nc nF np ntr nb mbestCost nso nsi nit nsh nsf nss nrc mtraced mdealer mnumber mwhose msize misParted (hrm)) si_X12_333 [0] sm_0 fm_0 nd_0 rfl rfl rfl rfl rfl (Nat.le_of_ble_eq_true rfl) rm_3_2_3 ⟨by first | exact Nat.le_of_ble_eq_true rfl | exact Nat.zero_le _, by first | exact Nat.le_of_ble_eq_true rfl | exact Nat.zero_le _⟩ gX12_alterRow_0.2.2.2.1 (Kors (Keqa fun a6373 => ?_) (Keqr ?_))
  · refine lv_if_ne (tgt := 12) hx hb gX12_alterRow_0.2.2.2.2.1 (by decide) (fun _ => ?_) (fun c9 => absurd c9 (by decide))
    obtain ⟨hrw1, hrw2⟩ := a6373
    obtain ⟨jr, hjr, rfl⟩ := Hs_nat (by omega) hrw1
    obtain ⟨jw, hjw, rfl⟩ := Wi_nat (N := 1) (by decide) hrw2
    refine lv_aload_n hx hb gX12_alterRow_0.2.2.2.2.2.2.2.1 rfl (lv_at0 hl) ?_
    refine gf_X12_19 hC rfl hK hP 0 rfl rfl gX12_alterRow_0.2.2.2.2.2.2.2.2.1 ?_
    refine lv_iconst (v := 2) hx hb gX12_alterRow_0.2.2.2.2.2.2.2.2.2 (by decide) ?_
    refine lv_iload_n hx hb gX12_alterRow_1.1 rfl (lv_at1 hl) ?_
    refine lv_imul hx hb gX12_alterRow_1.2.1 ?_
    refine eqi (x1 := nI (2 * jr)) (nI_mul 2 jr) ?_
    refine lv_iload_n hx hb gX12_alterRow_1.2.2.1 rfl (lv_at2 hl) ?_
    refine lv_iadd hx hb gX12_alterRow_1.2.2.2.1 ?_
    refine eqi (x1 := nI (2 * jr + jw)) (nI_add (2 * jr) jw) ?_
    refine aldN hC hK hP 1 rfl (k := (2 * jr + jw)) (by omega) (Nat.le_of_ble_eq_true rfl) (v := fnr (2 * jr + jw)) rfl gX12_alterRow_1.2.2.2.2.1 ?_
    refine lv_topi (fun x6374 ex6374 => ?_)
    refine lv_istore (lv' := [(4, .int x6374), (0, .ref h0), (1, .int (nI jr)), (2, .int (nI jw)), (3, .int x3)]) hx hb gX12_alterRow_1.2.2.2.2.2.1 hl (by decide) rfl (fun ls hl => ?_)
    refine lv_aload_n hx hb gX12_alterRow_1.2.2.2.2.2.2.1 rfl (lv_at1 hl) ?_
    refine gf_X12_19 hC rfl hK hP 0 rfl rfl gX12_alterRow_1.2.2.2.2.2.2.2.1 ?_
    refine lv_iconst (v := 2) hx hb gX12_alterRow_1.2.2.2.2.2.2.2.2.1 (by decide) ?_
    refine lv_iload_n hx hb gX12_alterRow_1.2.2.2.2.2.2.2.2.2 rfl (lv_at2 hl) ?_
    refine lv_imul hx hb gX12_alterRow_2.1 ?_
    refine eqi (x1 := nI (2 * jr)) (nI_mul 2 jr) ?_
    refine lv_iload_n hx hb gX12_alterRow_2.2.1 rfl (lv_at3 hl) ?_
    refine lv_iadd hx hb gX12_alterRow_2.2.2.1 ?_
    refine eqi (x1 := nI (2 * jr + jw)) (nI_add (2 * jr) jw) ?_
    refine lv_iload_n hx hb gX12_alterRow_2.2.2.2.1 rfl (lv_at4 hl) ?_
    refine astN hC hK hP hD hS 1 (ws' := [(h0, oX12 nw nk mhasKept nt mtaped nr (nI rm) mroundOf mroundFrom mouts nm mfromHour mtoHour ns mfrom mto msort misFault mdeep mcoded mlines nl nc nF np ntr nb mbestCost nso nsi nit nsh nsf nss nrc mtraced mdealer mnumber mwhose msize misParted), (nr, iA G 14 (upd fnr (2 * jr + jw) x3))]) rfl (k := (2 * jr + jw)) (by omega) (Nat.le_of_ble_eq_true rfl) (rfl) gX12_alterRow_2.2.2.2.2.1 (fun H locs hP hD hS => ?_)
    refine lv_iload hx hb gX12_alterRow_2.2.2.2.2.2.1 (lv_at0 hl) ?_
    refine toQ hQ0 ?_
    exact RI (v := x6374) hC hP hD hS [0, 1] (upd fnr (2 * jr + jw) x3) rfl rfl (by decide) (trivial) rfl gX12_alterRow_2.2.2.2.2.2.2
  · refine lv_if_ne (tgt := 12) hx hb gX12_alterRow_0.2.2.2.2.1 (by decide) (fun c9 => absurd (by decide) c9) (fun _ => ?_)
    refine lv_bipush (v := (-9)) hx hb gX12_alterRow_0.2.2.2.2.2.1 (by decide) ?_
    refine toQ hQ0 ?_
    exact RI (v := (-9)) hC hP hD hS [0, 1] fnr rfl rfl (by decide) (trivial) rfl gX12_alterRow_0.2.2.2.2.2.2.1
def K_w_dropRow (l : Launch) (G : GG) (h0 : Nat) (nw : Nat) (nk : Nat) (mhasKept : Int32) (nt : Nat) (mtaped : Int32) (nr : Nat) (rm : Nat) (mroundOf : Int32) (mroundFrom : Int32) (mouts : Int32) (nm : Nat) (mfromHour : Int32) (mtoHour : Int32) (ns : Nat) (mfrom : Int32) (mto : Int32) (msort : Int32) (misFault : Int32) (mdeep : Int32) (mcoded : Int32) (mlines : Int32) (nl : Nat) (nc : Nat) (nF : Nat) (np : Nat) (ntr : Nat) (nb : Nat) (mbestCost : Int32) (nso : Nat) (nsi : Nat) (nit : Nat) (nsh : Nat) (nsf : Nat) (nss : Nat) (nrc : Nat) (mtraced : Int32) (mdealer : Int32) (mnumber : Int32) (mwhose : Int32) (msize : Int32) (misParted : Int32) : Prop := MI l G yX12_dropRow cX12_dropRow 1 (some .int) 1 0 0 [.ref h0] [(h0, oX12 nw nk mhasKept nt mtaped nr (nI rm) mroundOf mroundFrom mouts nm mfromHour mtoHour ns mfrom mto msort misFault mdeep mcoded mlines nl nc nF np ntr nb mbestCost nso nsi nit nsh nsf nss nrc mtraced mdealer mnumber mwhose msize misParted)] (fun (r : Int32) (u : Nat) => (True) ∧ (u ≤ 7)) (fun u : Nat => [(h0, oX12 nw nk mhasKept nt mtaped nr (nI u) mroundOf mroundFrom mouts nm mfromHour mtoHour ns mfrom mto msort misFault mdeep mcoded mlines nl nc nF np ntr nb mbestCost nso nsi nit nsh nsf nss nrc mtraced mdealer mnumber mwhose msize misParted)])
set_option maxHeartbeats 4000000 in
set_option maxRecDepth 100000 in
theorem w_dropRow (l : Launch) (G : GG) (h0 : Nat) (nw : Nat) (nk : Nat) (mhasKept : Int32) (nt : Nat) (mtaped : Int32) (nr : Nat) (rm : Nat) (mroundOf : Int32) (mroundFrom : Int32) (mouts : Int32) (nm : Nat) (mfromHour : Int32) (mtoHour : Int32) (ns : Nat) (mfrom : Int32) (mto : Int32) (msort : Int32) (misFault : Int32) (mdeep : Int32) (mcoded : Int32) (mlines : Int32) (nl : Nat) (nc : Nat) (nF : Nat) (np : Nat) (ntr : Nat) (nb : Nat) (mbestCost : Int32) (nso : Nat) (nsi : Nat) (nit : Nat) (nsh : Nat) (nsf : Nat) (nss : Nat) (nrc : Nat) (mtraced : Int32) (mdealer : Int32) (mnumber : Int32) (mwhose : Int32) (msize : Int32) (misParted : Int32) (hrm : rm ≤ 7) : K_w_dropRow l G h0 nw nk mhasKept nt mtaped nr rm mroundOf mroundFrom mouts nm mfromHour mtoHour ns mfrom mto msort misFault mdeep mcoded mlines nl nc nF np ntr nb mbestCost nso nsi nit nsh nsf nss nrc mtraced mdealer mnumber mwhose msize misParted := by
  refine MI.start (by decide +kernel) (Nat.le_of_ble_eq_true rfl) ?_
  intro p e s m below meth c A ls hC hK hP hD hS hA hl
  refine absQ (fun Q0 hQ0 => ?_)
  have hl : lv_has ls 1 [(0, .ref h0)] := hl
  refine Kan8 hC (fun hx hb hr hml hB hown hlocks hnm => ?_)
  refine lv_aload_n hx hb gX12_dropRow_0.1 rfl (lv_at0 hl) ?_
  refine gf_X12_327 hC rfl hK hP 0 rfl rfl gX12_dropRow_0.2.1 ?_
  refine lv_if_ne (tgt := 10) hx hb gX12_dropRow_0.2.2.1 (by decide) (fun c_4_6375 => ?_) (fun c_4_6375 => ?_)
  · have hrm1 := nI_nz c_4_6375
    refine lv_aload_n hx hb gX12_dropRow_0.2.2.2.2.2.1 rfl (lv_at0 hl) ?_
    refine lv_dup hx hb gX12_dropRow_0.2.2.2.2.2.2.1 rfl ?_
    refine gf_X12_327 hC rfl hK hP 0 rfl rfl gX12_dropRow_0.2.2.2.2.2.2.2.1 ?_
    refine lv_iconst (v := 1) hx hb gX12_dropRow_0.2.2.2.2.2.2.2.2.1 (by decide) ?_
    refine lv_isub hx hb gX12_dropRow_0.2.2.2.2.2.2.2.2.2 ?_
    refine eqi (x1 := nI (rm - 1)) (nI_sb (by omega)) ?_
    refine pf_X12_327 hC rfl hK hP hD hS 0 (ws' := [(h0, oX12 nw nk mhasKept nt mtaped nr (nI (rm - 1)) mroundOf mroundFrom mouts nm mfromHour mtoHour ns mfrom mto msort misFault mdeep mcoded mlines nl nc nF np ntr nb mbestCost nso nsi nit nsh nsf nss nrc mtraced mdealer mnumber mwhose msize misParted)]) rfl (Nat.le_of_ble_eq_true rfl) rfl rfl rfl gX12_dropRow_1.1 (fun H locs hP hD hS => ?_)
    refine lv_aload_n hx hb gX12_dropRow_1.2.1 rfl (lv_at0 hl) ?_
    refine gf_X12_327 hC rfl hK hP 0 rfl rfl gX12_dropRow_1.2.2.1 ?_
    refine toQ hQ0 ?_
    exact RI (v := nI (rm - 1)) hC hP hD hS [0] (rm - 1) rfl rfl (by decide) (⟨trivial, by omega⟩) rfl gX12_dropRow_1.2.2.2
  · refine lv_bipush (v := (-3)) hx hb gX12_dropRow_0.2.2.2.1 (by decide) ?_
    refine toQ hQ0 ?_
    exact RI (v := (-3)) hC hP hD hS [0] rm rfl rfl (by decide) (⟨trivial, by omega⟩) rfl gX12_dropRow_0.2.2.2.2.1
def K_r_judge (l : Launch) (G : GG) (h0 : Nat) (nw : Nat) (nk : Nat) (mhasKept : Int32) (nt : Nat) (mtaped : Int32) (nr : Nat) (rm : Nat) (mroundOf : Int32) (mroundFrom : Int32) (mouts : Int32) (nm : Nat) (mfromHour : Int32) (mtoHour : Int32) (ns : Nat) (mfrom : Int32) (mto : Int32) (msort : Int32) (misFault : Int32) (mdeep : Int32) (mcoded : Int32) (mlines : Int32) (nl : Nat) (nc : Nat) (nF : Nat) (np : Nat) (ntr : Nat) (nb : Nat) (mbestCost : Int32) (nso : Nat) (nsi : Nat) (nit : Nat) (nsh : Nat) (nsf : Nat) (nss : Nat) (nrc : Nat) (mtraced : Int32) (mdealer : Int32) (mnumber : Int32) (mwhose : Int32) (msize : Int32) (misParted : Int32) (fnw : Nat → Int32) (fnr : Nat → Int32) : Prop := MP l G yX12_judge cX12_judge 5 (some .int) 3 [.ref h0] [(h0, oX12 nw nk mhasKept nt mtaped nr (nI rm) mroundOf mroundFrom mouts nm mfromHour mtoHour ns mfrom mto msort misFault mdeep mcoded mlines nl nc nF np ntr nb mbestCost nso nsi nit nsh nsf nss nrc mtraced mdealer mnumber mwhose msize misParted), (nw, iA G 1662 fnw), (nr, iA G 14 fnr)] (fun r : Int32 => True)
set_option maxHeartbeats 4000000 in
set_option maxRecDepth 100000 in
theorem r_judge (l : Launch) (G : GG) (h0 : Nat) (nw : Nat) (nk : Nat) (mhasKept : Int32) (nt : Nat) (mtaped : Int32) (nr : Nat) (rm : Nat) (mroundOf : Int32) (mroundFrom : Int32) (mouts : Int32) (nm : Nat) (mfromHour : Int32) (mtoHour : Int32) (ns : Nat) (mfrom : Int32) (mto : Int32) (msort : Int32) (misFault : Int32) (mdeep : Int32) (mcoded : Int32) (mlines : Int32) (nl : Nat) (nc : Nat) (nF : Nat) (np : Nat) (ntr : Nat) (nb : Nat) (mbestCost : Int32) (nso : Nat) (nsi : Nat) (nit : Nat) (nsh : Nat) (nsf : Nat) (nss : Nat) (nrc : Nat) (mtraced : Int32) (mdealer : Int32) (mnumber : Int32) (mwhose : Int32) (msize : Int32) (misParted : Int32) (fnw : Nat → Int32) (fnr : Nat → Int32) (hrm : rm ≤ 7) (hN : NI fnw) : K_r_judge l G h0 nw nk mhasKept nt mtaped nr rm mroundOf mroundFrom mouts nm mfromHour mtoHour ns mfrom mto msort misFault mdeep mcoded mlines nl nc nF np ntr nb mbestCost nso nsi nit nsh nsf nss nrc mtraced mdealer mnumber mwhose msize misParted fnw fnr := by
  refine MP.start (by decide +kernel) (Nat.le_of_ble_eq_true rfl) ?_
  intro p e s m below meth c ls hC hK hP hD hl
  refine absQ (fun Q0 hQ0 => ?_)
  have hl : lv_has ls 5 [(0, .ref h0)] := hl
  refine Kan8 hC (fun hx hb hr hml hB hown hlocks hnm => ?_)
  obtain ⟨k11, hk11, ek11⟩ := NI.nat hN (i := 11) (B := 7) (by decide +kernel) (by decide)
  refine lv_aload_n hx hb gX12_judge_0.1 rfl (lv_at0 hl) ?_
  refine gf_X12_22 hC rfl hK hP 0 rfl rfl gX12_judge_0.2.1 ?_
  refine lv_if_ge (tgt := 10) hx hb gX12_judge_0.2.2.1 (by decide) (fun c_4_6376 => ?_) (fun c_4_6376 => ?_)
  · refine lv_iconst (v := 0) hx hb gX12_judge_0.2.2.2.2.2.1 (by decide) ?_
    refine lv_istore_n (lv' := [(1, .int 0), (0, .ref h0)]) hx hb gX12_judge_0.2.2.2.2.2.2.1 rfl hl (by decide) rfl (fun ls hl => ?_)
    refine lv_iconst (v := 0) hx hb gX12_judge_0.2.2.2.2.2.2.2.1 (by decide) ?_
    refine lv_istore_n (lv' := [(2, .int 0), (1, .int 0), (0, .ref h0)]) hx hb gX12_judge_0.2.2.2.2.2.2.2.2.1 rfl hl (by decide) rfl (fun ls hl => ?_)
    have keyP : ∀ (nP kP : Nat) (lf : Int32) (ls : Array Slot), kP + nP = k11 → lv_has ls 5 [(2, .int (nI kP)), (1, .int lf), (0, .ref h0)] → W p l e (RM 3 0 0) s m ([.ref h0] : List Value).toArray below meth c s.heap [] 0 0 Q0 (F0 m 14 ls []) := by
      intro nP
      induction nP with
      | zero =>
        intro kP lf ls hkP hl
        obtain rfl : k11 = kP := by omega
        have hl : lv_has ls 5 [(2, .int (nI k11)), (1, .int lf), (0, .ref h0)] := hl
        refine lv_iload_n hx hb gX12_judge_0.2.2.2.2.2.2.2.2.2 rfl (lv_at0 hl) ?_
        refine lv_aload_n hx hb gX12_judge_1.1 rfl (lv_at2 hl) ?_
        refine gf_X12_9 hC rfl hK hP 0 rfl rfl gX12_judge_1.2.1 ?_
        refine lv_bipush (v := 11) hx hb gX12_judge_1.2.2.1 (by decide) ?_
        refine ald hC hK hP 1 rfl (vin (by decide +kernel)) (k := 11) (by decide +kernel) (v := nI k11) (ek11) gX12_judge_1.2.2.2.1 ?_
        refine lv_icmp_ge (tgt := 42) hx hb gX12_judge_1.2.2.2.2.1 (by decide) (fun _ => ?_) (fun c9 => absurd (Int32.le_refl _) c9)
        refine lv_aload_n hx hb gX12_judge_2.2.2.2.2.2.2.1 rfl (lv_at2 hl) ?_
        refine gf_X12_330 hC rfl hK hP 0 rfl rfl gX12_judge_2.2.2.2.2.2.2.2.1 ?_
        refine lv_istore_n (lv' := [(2, .int mroundFrom), (1, .int lf), (0, .ref h0)]) hx hb gX12_judge_2.2.2.2.2.2.2.2.2.1 rfl hl (by decide) rfl (fun ls hl => ?_)
        refine lv_iconst (v := 0) hx hb gX12_judge_2.2.2.2.2.2.2.2.2.2 (by decide) ?_
        refine lv_istore_n (lv' := [(3, .int 0), (2, .int mroundFrom), (1, .int lf), (0, .ref h0)]) hx hb gX12_judge_3.1 rfl hl (by decide) rfl (fun ls hl => ?_)
        have keyQ : ∀ (nQ kQ : Nat) (lf2 : Int32) (ov9 : Int32) (ls : Array Slot), kQ + nQ = rm → lv_has ls 5 [(3, .int (nI kQ)), (2, .int ov9), (1, .int lf2), (0, .ref h0)] → W p l e (RM 3 0 0) s m ([.ref h0] : List Value).toArray below meth c s.heap [] 0 0 Q0 (F0 m 49 ls []) := by
          intro nQ
          induction nQ with
          | zero =>
            intro kQ lf2 ov9 ls hkQ hl
            obtain rfl : rm = kQ := by omega
            have hl : lv_has ls 5 [(3, .int (nI rm)), (2, .int ov9), (1, .int lf2), (0, .ref h0)] := hl
            refine lv_iload_n hx hb gX12_judge_3.2.1 rfl (lv_at0 hl) ?_
            refine lv_aload_n hx hb gX12_judge_3.2.2.1 rfl (lv_at3 hl) ?_
            refine gf_X12_327 hC rfl hK hP 0 rfl rfl gX12_judge_3.2.2.2.1 ?_
            refine lv_icmp_ge (tgt := 138) hx hb gX12_judge_3.2.2.2.2.1 (by decide) (fun _ => ?_) (fun c9 => absurd (Int32.le_refl _) c9)
            refine lv_aload_n hx hb gX12_judge_8.2.2.2.2.2.2.2.2.1 rfl (lv_at3 hl) ?_
            refine gf_X12_327 hC rfl hK hP 0 rfl rfl gX12_judge_8.2.2.2.2.2.2.2.2.2 ?_
            refine lv_aload_n hx hb gX12_judge_9.1 rfl (lv_at3 hl) ?_
            refine gf_X12_22 hC rfl hK hP 0 rfl rfl gX12_judge_9.2.1 ?_
            refine pS hC hK hl (m_bits l G mroundOf) si_X12_110 rfl rfl (Nat.le_of_ble_eq_true rfl) rm_3_1_3 ⟨by first | exact Nat.le_of_ble_eq_true rfl | exact Nat.zero_le _, by first | exact Nat.le_of_ble_eq_true rfl | exact Nat.zero_le _⟩ gX12_judge_9.2.2.1 (fun r6377 hr6377 => ?_)
            refine lv_icmp_ge (tgt := 161) hx hb gX12_judge_9.2.2.2.1 (by decide) (fun c_149_6378 => ?_) (fun c_149_6378 => ?_)
            · refine lv_iconst (v := 0) hx hb gX12_judge_9.2.2.2.2.2.2.2.2.2 (by decide) ?_
              refine toQ hQ0 ?_
              exact RP (v := 0) hC (trivial) rfl gX12_judge_10
            · refine lv_aload_n hx hb gX12_judge_9.2.2.2.2.1 rfl (lv_at3 hl) ?_
              refine gf_X12_327 hC rfl hK hP 0 rfl rfl gX12_judge_9.2.2.2.2.2.1 ?_
              refine lv_iconst (v := 1) hx hb gX12_judge_9.2.2.2.2.2.2.1 (by decide) ?_
              refine lv_iadd hx hb gX12_judge_9.2.2.2.2.2.2.2.1 ?_
              refine eqi (x1 := nI (rm + 1)) (nI_add rm 1) ?_
              refine lv_goto (tgt := 162) hx hb gX12_judge_9.2.2.2.2.2.2.2.2.1 (by decide) ?_
              refine toQ hQ0 ?_
              exact RP (v := nI (rm + 1)) hC (trivial) rfl gX12_judge_10
          | succ nQ ihQ =>
            intro kQ lf2 ov9 ls hkQ hl
            refine lv_iload_n hx hb gX12_judge_3.2.1 rfl (lv_at0 hl) ?_
            refine lv_aload_n hx hb gX12_judge_3.2.2.1 rfl (lv_at3 hl) ?_
            refine gf_X12_327 hC rfl hK hP 0 rfl rfl gX12_judge_3.2.2.2.1 ?_
            refine lv_icmp_ge (tgt := 138) hx hb gX12_judge_3.2.2.2.2.1 (by decide) (fun c9 => absurd c9 (nI_ge (a := kQ) (b := rm) (by omega) (by omega))) (fun _ => ?_)
            refine lv_aload_n hx hb gX12_judge_3.2.2.2.2.2.1 rfl (lv_at3 hl) ?_
            refine gf_X12_19 hC rfl hK hP 0 rfl rfl gX12_judge_3.2.2.2.2.2.2.1 ?_
            refine lv_iconst (v := 2) hx hb gX12_judge_3.2.2.2.2.2.2.2.1 (by decide) ?_
            refine lv_iload_n hx hb gX12_judge_3.2.2.2.2.2.2.2.2.1 rfl (lv_at0 hl) ?_
            refine lv_imul hx hb gX12_judge_3.2.2.2.2.2.2.2.2.2 ?_
            refine eqi (x1 := nI (2 * kQ)) (nI_mul 2 kQ) ?_
            refine aldN hC hK hP 2 rfl (k := (2 * kQ)) (by omega) (Nat.le_of_ble_eq_true rfl) (v := fnr (2 * kQ)) rfl gX12_judge_4.1 ?_
            refine lv_topi (fun x6379 ex6379 => ?_)
            refine lv_istore (lv' := [(4, .int x6379), (3, .int (nI kQ)), (2, .int ov9), (1, .int lf2), (0, .ref h0)]) hx hb gX12_judge_4.2.1 hl (by decide) rfl (fun ls hl => ?_)
            refine lv_iload hx hb gX12_judge_4.2.2.1 (lv_at0 hl) ?_
            refine lv_iconst (v := 0) hx hb gX12_judge_4.2.2.2.1 (by decide) ?_
            refine lv_bipush (v := 6) hx hb gX12_judge_4.2.2.2.2.1 (by decide) ?_
            refine pS hC hK hl (m_within l G x6379 0 6) si_X12_84 rfl rfl (Nat.le_of_ble_eq_true rfl) rm_3_1_3 ⟨by first | exact Nat.le_of_ble_eq_true rfl | exact Nat.zero_le _, by first | exact Nat.le_of_ble_eq_true rfl | exact Nat.zero_le _⟩ gX12_judge_4.2.2.2.2.2.1 (Kors (Keqa fun a6381 => ?_) (Keqa fun a6381 => ?_))
            · refine lv_if_eq (tgt := 87) hx hb gX12_judge_4.2.2.2.2.2.2.1 (by decide) (fun c9 => absurd c9 (by decide)) (fun _ => ?_)
              obtain ⟨jq, hjq, rfl⟩ := Wi_nat (N := 6) (by decide) a6381
              refine lv_iload_n hx hb gX12_judge_4.2.2.2.2.2.2.2.1 rfl (lv_at3 hl) ?_
              refine lv_iload hx hb gX12_judge_4.2.2.2.2.2.2.2.2.1 (lv_at0 hl) ?_
              refine pS hC hK hl (m_has l G lf2 (nI jq)) si_X12_99 rfl rfl (Nat.le_of_ble_eq_true rfl) rm_3_1_2 ⟨by first | exact Nat.le_of_ble_eq_true rfl | exact Nat.zero_le _, by first | exact Nat.le_of_ble_eq_true rfl | exact Nat.zero_le _⟩ gX12_judge_4.2.2.2.2.2.2.2.2.2 (Kors (Keqa fun a6383 => ?_) (Keqa fun a6383 => ?_))
              · refine lv_if_ne (tgt := 91) hx hb gX12_judge_5.1 (by decide) (fun _ => ?_) (fun c9 => absurd c9 (by decide))
                refine lv_iload_n hx hb gX12_judge_5.2.2.2.2.2.1 rfl (lv_at3 hl) ?_
                refine lv_iconst (v := 1) hx hb gX12_judge_5.2.2.2.2.2.2.1 (by decide) ?_
                refine lv_iload hx hb gX12_judge_5.2.2.2.2.2.2.2.1 (lv_at0 hl) ?_
                refine lv_ishl hx hb gX12_judge_5.2.2.2.2.2.2.2.2.1 ?_
                refine lv_ixor hx hb gX12_judge_5.2.2.2.2.2.2.2.2.2 ?_
                refine lv_istore_n (lv' := [(1, .int (lf2 ^^^ (1 <<< ((nI jq) &&& 31)))), (4, .int (nI jq)), (3, .int (nI kQ)), (2, .int ov9), (0, .ref h0)]) hx hb gX12_judge_6.1 rfl hl (by decide) rfl (fun ls hl => ?_)
                refine lv_iload_n hx hb gX12_judge_6.2.1 rfl (lv_at3 hl) ?_
                refine lv_aload_n hx hb gX12_judge_6.2.2.1 rfl (lv_at4 hl) ?_
                refine gf_X12_9 hC rfl hK hP 0 rfl rfl gX12_judge_6.2.2.2.1 ?_
                refine lv_sipush (v := 1648) hx hb gX12_judge_6.2.2.2.2.1 (by decide) ?_
                refine lv_iconst (v := 2) hx hb gX12_judge_6.2.2.2.2.2.1 (by decide) ?_
                refine lv_iload hx hb gX12_judge_6.2.2.2.2.2.2.1 (lv_at1 hl) ?_
                refine lv_imul hx hb gX12_judge_6.2.2.2.2.2.2.2.1 ?_
                refine eqi (x1 := nI (2 * jq)) (nI_mul 2 jq) ?_
                refine lv_iadd hx hb gX12_judge_6.2.2.2.2.2.2.2.2.1 ?_
                refine eqi (x1 := nI (1648 + 2 * jq)) (nI_add 1648 (2 * jq)) ?_
                refine aldN hC hK hP 1 rfl (k := (1648 + 2 * jq)) (by omega) (Nat.le_of_ble_eq_true rfl) (v := fnw (1648 + 2 * jq)) rfl gX12_judge_6.2.2.2.2.2.2.2.2.2 ?_
                refine lv_topi (fun x6384 ex6384 => ?_)
                refine lv_iadd hx hb gX12_judge_7.1 ?_
                refine lv_istore_n (lv' := [(2, .int (ov9 + x6384)), (1, .int (lf2 ^^^ (1 <<< ((nI jq) &&& 31)))), (4, .int (nI jq)), (3, .int (nI kQ)), (0, .ref h0)]) hx hb gX12_judge_7.2.1 rfl hl (by decide) rfl (fun ls hl => ?_)
                refine lv_aload_n hx hb gX12_judge_7.2.2.1 rfl (lv_at4 hl) ?_
                refine gf_X12_19 hC rfl hK hP 0 rfl rfl gX12_judge_7.2.2.2.1 ?_
                refine lv_iconst (v := 2) hx hb gX12_judge_7.2.2.2.2.1 (by decide) ?_
                refine lv_iload_n hx hb gX12_judge_7.2.2.2.2.2.1 rfl (lv_at3 hl) ?_
                refine lv_imul hx hb gX12_judge_7.2.2.2.2.2.2.1 ?_
                refine eqi (x1 := nI (2 * kQ)) (nI_mul 2 kQ) ?_
                refine lv_iconst (v := 1) hx hb gX12_judge_7.2.2.2.2.2.2.2.1 (by decide) ?_
                refine lv_iadd hx hb gX12_judge_7.2.2.2.2.2.2.2.2.1 ?_
                refine eqi (x1 := nI (2 * kQ + 1)) (nI_add (2 * kQ) 1) ?_
                refine aldN hC hK hP 2 rfl (k := (2 * kQ + 1)) (by omega) (Nat.le_of_ble_eq_true rfl) (v := fnr (2 * kQ + 1)) rfl gX12_judge_7.2.2.2.2.2.2.2.2.2 ?_
                refine lv_topi (fun x6385 ex6385 => ?_)
                refine lv_iload_n hx hb gX12_judge_8.1 rfl (lv_at0 hl) ?_
                refine lv_icmp_eq (tgt := 132) hx hb gX12_judge_8.2.1 (by decide) (fun c_125_6386 => ?_) (fun c_125_6386 => ?_)
                · refine lv_iinc (v := nI (kQ + 1)) (lv' := [(3, .int (nI (kQ + 1))), (2, .int (ov9 + x6384)), (1, .int (lf2 ^^^ (1 <<< ((nI jq) &&& 31)))), (4, .int (nI jq)), (0, .ref h0)]) hx hb gX12_judge_8.2.2.2.2.2.2.1 hl (k := 3) rfl (nI_1 _) (by decide) rfl (fun ls hl => ?_)
                  refine lv_goto (tgt := 49) hx hb gX12_judge_8.2.2.2.2.2.2.2.1 (by decide) ?_
                  exact ihQ (kQ + 1) (lf2 ^^^ (1 <<< ((nI jq) &&& 31))) (ov9 + x6384) _ (by omega) (lv_sub hl [0, 1, 2, 4] rfl)
                · refine lv_iload_n hx hb gX12_judge_8.2.2.1 rfl (lv_at3 hl) ?_
                  refine lv_iconst (v := 1) hx hb gX12_judge_8.2.2.2.1 (by decide) ?_
                  refine lv_iadd hx hb gX12_judge_8.2.2.2.2.1 ?_
                  refine eqi (x1 := nI (kQ + 1)) (nI_add kQ 1) ?_
                  refine toQ hQ0 ?_
                  exact RP (v := nI (kQ + 1)) hC (trivial) rfl gX12_judge_8.2.2.2.2.2.1
              · refine lv_if_ne (tgt := 91) hx hb gX12_judge_5.1 (by decide) (fun c9 => absurd (by decide) c9) (fun _ => ?_)
                refine lv_iload_n hx hb gX12_judge_5.2.1 rfl (lv_at1 hl) ?_
                refine lv_iconst (v := 1) hx hb gX12_judge_5.2.2.1 (by decide) ?_
                refine lv_iadd hx hb gX12_judge_5.2.2.2.1 ?_
                refine eqi (x1 := nI (kQ + 1)) (nI_add kQ 1) ?_
                refine toQ hQ0 ?_
                exact RP (v := nI (kQ + 1)) hC (trivial) rfl gX12_judge_5.2.2.2.2.1
            · refine lv_if_eq (tgt := 87) hx hb gX12_judge_4.2.2.2.2.2.2.1 (by decide) (fun _ => ?_) (fun c9 => absurd (by decide) c9)
              refine lv_iload_n hx hb gX12_judge_5.2.1 rfl (lv_at1 hl) ?_
              refine lv_iconst (v := 1) hx hb gX12_judge_5.2.2.1 (by decide) ?_
              refine lv_iadd hx hb gX12_judge_5.2.2.2.1 ?_
              refine eqi (x1 := nI (kQ + 1)) (nI_add kQ 1) ?_
              refine toQ hQ0 ?_
              exact RP (v := nI (kQ + 1)) hC (trivial) rfl gX12_judge_5.2.2.2.2.1
        exact keyQ rm 0 lf mroundFrom _ (by omega) (lv_sub hl [0, 1, 2, 3] rfl)
      | succ nP ihP =>
        intro kP lf ls hkP hl
        refine lv_iload_n hx hb gX12_judge_0.2.2.2.2.2.2.2.2.2 rfl (lv_at0 hl) ?_
        refine lv_aload_n hx hb gX12_judge_1.1 rfl (lv_at2 hl) ?_
        refine gf_X12_9 hC rfl hK hP 0 rfl rfl gX12_judge_1.2.1 ?_
        refine lv_bipush (v := 11) hx hb gX12_judge_1.2.2.1 (by decide) ?_
        refine ald hC hK hP 1 rfl (vin (by decide +kernel)) (k := 11) (by decide +kernel) (v := nI k11) (ek11) gX12_judge_1.2.2.2.1 ?_
        refine lv_icmp_ge (tgt := 42) hx hb gX12_judge_1.2.2.2.2.1 (by decide) (fun c9 => absurd c9 (nI_ge (a := kP) (b := k11) (by omega) (by omega))) (fun _ => ?_)
        refine lv_iload_n hx hb gX12_judge_1.2.2.2.2.2.1 rfl (lv_at1 hl) ?_
        refine lv_aload_n hx hb gX12_judge_1.2.2.2.2.2.2.1 rfl (lv_at2 hl) ?_
        refine gf_X12_22 hC rfl hK hP 0 rfl rfl gX12_judge_1.2.2.2.2.2.2.2.1 ?_
        refine lv_iconst (v := 1) hx hb gX12_judge_1.2.2.2.2.2.2.2.2.1 (by decide) ?_
        refine lv_iload_n hx hb gX12_judge_1.2.2.2.2.2.2.2.2.2 rfl (lv_at0 hl) ?_
        refine lv_ishl hx hb gX12_judge_2.1 ?_
        refine lv_iand hx hb gX12_judge_2.2.1 ?_
        refine lv_ior hx hb gX12_judge_2.2.2.1 ?_
        refine lv_istore_n (lv' := [(1, .int (lf ||| (mroundOf &&& (1 <<< ((nI kP) &&& 31))))), (2, .int (nI kP)), (0, .ref h0)]) hx hb gX12_judge_2.2.2.2.1 rfl hl (by decide) rfl (fun ls hl => ?_)
        refine lv_iinc (v := nI (kP + 1)) (lv' := [(2, .int (nI (kP + 1))), (1, .int (lf ||| (mroundOf &&& (1 <<< ((nI kP) &&& 31))))), (0, .ref h0)]) hx hb gX12_judge_2.2.2.2.2.1 hl (k := 1) rfl (nI_1 _) (by decide) rfl (fun ls hl => ?_)
        refine lv_goto (tgt := 14) hx hb gX12_judge_2.2.2.2.2.2.1 (by decide) ?_
        exact ihP (kP + 1) (lf ||| (mroundOf &&& (1 <<< ((nI kP) &&& 31)))) _ (by omega) (lv_sub hl [0, 1, 2] rfl)
    exact keyP k11 0 0 _ (by omega) (lv_sub hl [0, 1, 2] rfl)
  · refine lv_bipush (v := (-3)) hx hb gX12_judge_0.2.2.2.1 (by decide) ?_
    refine toQ hQ0 ?_
    exact RP (v := (-3)) hC (trivial) rfl gX12_judge_0.2.2.2.2.1
def K_w_sheet (l : Launch) (G : GG) (h0 : Nat) (x1 : Int32) (x2 : Int32) (x3 : Int32) (nw : Nat) (nk : Nat) (mhasKept : Int32) (nt : Nat) (mtaped : Int32) (nr : Nat) (mrowMany : Int32) (mroundOf : Int32) (mroundFrom : Int32) (mouts : Int32) (nm : Nat) (mfromHour : Int32) (mtoHour : Int32) (ns : Nat) (mfrom : Int32) (mto : Int32) (msort : Int32) (misFault : Int32) (mdeep : Int32) (mcoded : Int32) (mlines : Int32) (nl : Nat) (nc : Nat) (nF : Nat) (np : Nat) (ntr : Nat) (nb : Nat) (mbestCost : Int32) (nso : Nat) (nsi : Nat) (nit : Nat) (nsh : Nat) (nsf : Nat) (nss : Nat) (nrc : Nat) (mtraced : Int32) (mdealer : Int32) (mnumber : Int32) (mwhose : Int32) (msize : Int32) (misParted : Int32) (fnso : Nat → Int32) (fnsi : Nat → Int32) (fnit : Nat → Int32) : Prop := MI l G yX12_sheet cX12_sheet 5 (some .int) 3 0 0 [.ref h0, .int x1, .int x2, .int x3] [(h0, oX12 nw nk mhasKept nt mtaped nr mrowMany mroundOf mroundFrom mouts nm mfromHour mtoHour ns mfrom mto msort misFault mdeep mcoded mlines nl nc nF np ntr nb mbestCost nso nsi nit nsh nsf nss nrc mtraced mdealer mnumber mwhose msize misParted), (nso, iA G 4 fnso), (nsi, iA G 4 fnsi), (nit, iA G 160 fnit)] (fun (r : Int32) (u : (Nat → Int32) × (Nat → Int32) × (Nat → Int32)) => (r = ifc (Wi x1 0 3) (ifc (Wi x2 (-1) 4) (ifc (x2 < 0) 1 (ifc (x3 ≤ 40) (ifc (x3 < 0) (-14) 1) (-1))) (-1)) (-1)) ∧ (SZ u.2.1 ∧ (S0 x1 x2 → u.1 = upd fnso x1.toNatClampNeg x2 ∧ u.2.1 = upd fnsi x1.toNatClampNeg 0 ∧ ZQ fnit u.2.2 x1.toNatClampNeg) ∧ (S1 x1 x2 x3 → u.1 = upd fnso x1.toNatClampNeg x2 ∧ u.2.1 = upd fnsi x1.toNatClampNeg x3 ∧ ZR fnit u.2.2 x1.toNatClampNeg 40) ∧ (¬ S0 x1 x2 → ¬ S1 x1 x2 x3 → u.1 = fnso ∧ u.2.1 = fnsi ∧ u.2.2 = fnit))) (fun u : (Nat → Int32) × (Nat → Int32) × (Nat → Int32) => [(h0, oX12 nw nk mhasKept nt mtaped nr mrowMany mroundOf mroundFrom mouts nm mfromHour mtoHour ns mfrom mto msort misFault mdeep mcoded mlines nl nc nF np ntr nb mbestCost nso nsi nit nsh nsf nss nrc mtraced mdealer mnumber mwhose msize misParted), (nso, iA G 4 u.1), (nsi, iA G 4 u.2.1), (nit, iA G 160 u.2.2)])
set_option maxHeartbeats 4000000 in
set_option maxRecDepth 100000 in
theorem w_sheet (l : Launch) (G : GG) (h0 : Nat) (x1 : Int32) (x2 : Int32) (x3 : Int32) (nw : Nat) (nk : Nat) (mhasKept : Int32) (nt : Nat) (mtaped : Int32) (nr : Nat) (mrowMany : Int32) (mroundOf : Int32) (mroundFrom : Int32) (mouts : Int32) (nm : Nat) (mfromHour : Int32) (mtoHour : Int32) (ns : Nat) (mfrom : Int32) (mto : Int32) (msort : Int32) (misFault : Int32) (mdeep : Int32) (mcoded : Int32) (mlines : Int32) (nl : Nat) (nc : Nat) (nF : Nat) (np : Nat) (ntr : Nat) (nb : Nat) (mbestCost : Int32) (nso : Nat) (nsi : Nat) (nit : Nat) (nsh : Nat) (nsf : Nat) (nss : Nat) (nrc : Nat) (mtraced : Int32) (mdealer : Int32) (mnumber : Int32) (mwhose : Int32) (msize : Int32) (misParted : Int32) (fnso : Nat → Int32) (fnsi : Nat → Int32) (fnit : Nat → Int32) (hZ : SZ fnsi) : K_w_sheet l G h0 x1 x2 x3 nw nk mhasKept nt mtaped nr mrowMany mroundOf mroundFrom mouts nm mfromHour mtoHour ns mfrom mto msort misFault mdeep mcoded mlines nl nc nF np ntr nb mbestCost nso nsi nit nsh nsf nss nrc mtraced mdealer mnumber mwhose msize misParted fnso fnsi fnit := by
  refine MI.start (by decide +kernel) (Nat.le_of_ble_eq_true rfl) ?_
  intro p e s m below meth c A ls hC hK hP hD hS hA hl
  refine absQ (fun Q0 hQ0 => ?_)
  have hl : lv_has ls 5 [(0, .ref h0), (1, .int x1), (2, .int x2), (3, .int x3)] := hl
  refine Kan8 hC (fun hx hb hr hml hB hown hlocks hnm => ?_)
  refine lv_iload_n hx hb gX12_sheet_0.1 rfl (lv_at1 hl) ?_
  refine pS hC hK hl (m_isFour l G x1) si_X12_336 rfl rfl (Nat.le_of_ble_eq_true rfl) rm_3_2_1 ⟨by first | exact Nat.le_of_ble_eq_true rfl | exact Nat.zero_le _, by first | exact Nat.le_of_ble_eq_true rfl | exact Nat.zero_le _⟩ gX12_sheet_0.2.1 (Kors (Keqa fun a6388 => ?_) (Keqa fun a6388 => ?_))
  · refine lv_if_eq (tgt := 26) hx hb gX12_sheet_0.2.2.1 (by decide) (fun c9 => absurd c9 (by decide)) (fun _ => ?_)
    refine lv_iload_n hx hb gX12_sheet_0.2.2.2.1 rfl (lv_at2 hl) ?_
    refine lv_iconst (v := (-1)) hx hb gX12_sheet_0.2.2.2.2.1 (by decide) ?_
    refine lv_iconst (v := 4) hx hb gX12_sheet_0.2.2.2.2.2.1 (by decide) ?_
    refine pS hC hK hl (m_within l G x2 (-1) 4) si_X12_84 rfl rfl (Nat.le_of_ble_eq_true rfl) rm_3_1_3 ⟨by first | exact Nat.le_of_ble_eq_true rfl | exact Nat.zero_le _, by first | exact Nat.le_of_ble_eq_true rfl | exact Nat.zero_le _⟩ gX12_sheet_0.2.2.2.2.2.2.1 (Kors (Keqa fun a6390 => ?_) (Keqa fun a6390 => ?_))
    · refine lv_if_eq (tgt := 26) hx hb gX12_sheet_0.2.2.2.2.2.2.2.1 (by decide) (fun c9 => absurd c9 (by decide)) (fun _ => ?_)
      refine lv_iload_n hx hb gX12_sheet_0.2.2.2.2.2.2.2.2.1 rfl (lv_at2 hl) ?_
      refine lv_if_lt (tgt := 28) hx hb gX12_sheet_0.2.2.2.2.2.2.2.2.2 (by decide) (fun c_17_6391 => ?_) (fun c_17_6391 => ?_)
      · refine lv_iload_n hx hb gX12_sheet_1.2.2.2.2.2.1 rfl (lv_at2 hl) ?_
        refine lv_if_lt (tgt := 39) hx hb gX12_sheet_1.2.2.2.2.2.2.1 (by decide) (fun _ => ?_) (fun c9 => absurd (c_17_6391) c9)
        obtain ⟨jt, hjt, rfl⟩ := Wi_nat (N := 3) (by decide) a6388
        refine lv_aload_n hx hb gX12_sheet_2.2.1 rfl (lv_at0 hl) ?_
        refine gf_X12_63 hC rfl hK hP 0 rfl rfl gX12_sheet_2.2.2.1 ?_
        refine lv_iload_n hx hb gX12_sheet_2.2.2.2.1 rfl (lv_at1 hl) ?_
        refine lv_iload_n hx hb gX12_sheet_2.2.2.2.2.1 rfl (lv_at2 hl) ?_
        refine astN hC hK hP hD hS 1 (ws' := [(h0, oX12 nw nk mhasKept nt mtaped nr mrowMany mroundOf mroundFrom mouts nm mfromHour mtoHour ns mfrom mto msort misFault mdeep mcoded mlines nl nc nF np ntr nb mbestCost nso nsi nit nsh nsf nss nrc mtraced mdealer mnumber mwhose msize misParted), (nso, iA G 4 (upd fnso jt x2)), (nsi, iA G 4 fnsi), (nit, iA G 160 fnit)]) rfl (k := jt) (by omega) (Nat.le_of_ble_eq_true rfl) (rfl) gX12_sheet_2.2.2.2.2.2.1 (fun H locs hP hD hS => ?_)
        refine lv_aload_n hx hb gX12_sheet_2.2.2.2.2.2.2.1 rfl (lv_at0 hl) ?_
        refine gf_X12_66 hC rfl hK hP 0 rfl rfl gX12_sheet_2.2.2.2.2.2.2.2.1 ?_
        refine lv_iload_n hx hb gX12_sheet_2.2.2.2.2.2.2.2.2.1 rfl (lv_at1 hl) ?_
        refine lv_iload_n hx hb gX12_sheet_2.2.2.2.2.2.2.2.2.2 rfl (lv_at2 hl) ?_
        refine lv_if_ge (tgt := 59) hx hb gX12_sheet_3.1 (by decide) (fun c9 => absurd c9 (Int32.not_le.mpr c_17_6391)) (fun _ => ?_)
        refine lv_iconst (v := 0) hx hb gX12_sheet_3.2.1 (by decide) ?_
        refine lv_goto (tgt := 60) hx hb gX12_sheet_3.2.2.1 (by decide) ?_
        refine astN hC hK hP hD hS 2 (ws' := [(h0, oX12 nw nk mhasKept nt mtaped nr mrowMany mroundOf mroundFrom mouts nm mfromHour mtoHour ns mfrom mto msort misFault mdeep mcoded mlines nl nc nF np ntr nb mbestCost nso nsi nit nsh nsf nss nrc mtraced mdealer mnumber mwhose msize misParted), (nso, iA G 4 (upd fnso jt x2)), (nsi, iA G 4 (upd fnsi jt 0)), (nit, iA G 160 fnit)]) rfl (k := jt) (by omega) (Nat.le_of_ble_eq_true rfl) (rfl) gX12_sheet_3.2.2.2.2.1 (fun H locs hP hD hS => ?_)
        have hZ2 : SZ (upd fnsi jt 0) := SZ.zero hZ
        refine lv_iconst (v := 0) hx hb gX12_sheet_3.2.2.2.2.2.1 (by decide) ?_
        refine lv_istore (lv' := [(4, .int 0), (0, .ref h0), (1, .int (nI jt)), (2, .int x2), (3, .int x3)]) hx hb gX12_sheet_3.2.2.2.2.2.2.1 hl (by decide) rfl (fun ls hl => ?_)
        have keyP : ∀ (nP kP : Nat) (vI : Nat → Int32) (H : Heap) (locs : List Loc) (ls : Array Slot), kP + nP = 40 → (ZR fnit vI jt kP) → va_PD G A [(h0, oX12 nw nk mhasKept nt mtaped nr mrowMany mroundOf mroundFrom mouts nm mfromHour mtoHour ns mfrom mto msort misFault mdeep mcoded mlines nl nc nF np ntr nb mbestCost nso nsi nit nsh nsf nss nrc mtraced mdealer mnumber mwhose msize misParted), (nso, iA G 4 (upd fnso jt x2)), (nsi, iA G 4 (upd fnsi jt 0)), (nit, iA G 160 vI)] H → va_S A s.heap H locs → lv_has ls 5 [(4, .int (nI kP)), (0, .ref h0), (1, .int (nI jt)), (2, .int x2), (3, .int x3)] → W p l e (RM 3 0 0) s m ([.ref h0, .int (nI jt), .int x2, .int x3] : List Value).toArray below meth c H locs 0 0 Q0 (F0 m 64 ls []) := by
          intro nP
          induction nP with
          | zero =>
            intro kP vI H locs ls hkP hzr hPD hS hl
            refine Kan2 hPD (fun hP hD => ?_)
            obtain rfl : 40 = kP := by omega
            have hl : lv_has ls 5 [(4, .int 40), (0, .ref h0), (1, .int (nI jt)), (2, .int x2), (3, .int x3)] := hl
            refine lv_iload hx hb gX12_sheet_3.2.2.2.2.2.2.2.1 (lv_at0 hl) ?_
            refine lv_bipush (v := 40) hx hb gX12_sheet_3.2.2.2.2.2.2.2.2.1 (by decide) ?_
            refine lv_icmp_ge (tgt := 90) hx hb gX12_sheet_3.2.2.2.2.2.2.2.2.2 (by decide) (fun _ => ?_) (fun c9 => absurd (by decide) c9)
            refine lv_iconst (v := 1) hx hb gX12_sheet_5.2.1 (by decide) ?_
            refine toQ hQ0 ?_
            exact RI (v := 1) hC hP hD hS [0, 1, 2, 3] (upd fnso jt x2, upd fnsi jt 0, vI) rfl rfl (by decide) (⟨(by first | rfl | (simp only [ifc_t hZ, ifc_t a6388, ifc_t a6390, ifc_t c_17_6391, ifc_t (q := x2 < 0) c_17_6391]; done) | (simp only [ifc_t hZ, ifc_t a6388, ifc_t a6390, ifc_t c_17_6391, ifc_t (q := x2 < 0) c_17_6391]; rfl)), ⟨by assumption, ⟨fun _ => (by rw [nI_clamp (n := jt) (by omega)]; exact ⟨rfl, rfl, hzr.zq⟩), fun h9 => absurd c_17_6391 h9.2.2.1, fun h9 _ => absurd ⟨a6388, a6390, c_17_6391⟩ h9⟩⟩⟩) rfl gX12_sheet_5.2.2
          | succ nP ihP =>
            intro kP vI H locs ls hkP hzr hPD hS hl
            refine Kan2 hPD (fun hP hD => ?_)
            refine lv_iload hx hb gX12_sheet_3.2.2.2.2.2.2.2.1 (lv_at0 hl) ?_
            refine lv_bipush (v := 40) hx hb gX12_sheet_3.2.2.2.2.2.2.2.2.1 (by decide) ?_
            refine lv_icmp_ge (tgt := 90) hx hb gX12_sheet_3.2.2.2.2.2.2.2.2.2 (by decide) (fun c9 => absurd c9 (nI_ge (a := kP) (b := 40) (by omega) (by omega))) (fun _ => ?_)
            refine lv_aload_n hx hb gX12_sheet_4.1 rfl (lv_at1 hl) ?_
            refine gf_X12_69 hC rfl hK hP 0 rfl rfl gX12_sheet_4.2.1 ?_
            refine lv_bipush (v := 40) hx hb gX12_sheet_4.2.2.1 (by decide) ?_
            refine lv_iload_n hx hb gX12_sheet_4.2.2.2.1 rfl (lv_at2 hl) ?_
            refine lv_imul hx hb gX12_sheet_4.2.2.2.2.1 ?_
            refine eqi (x1 := nI (40 * jt)) (nI_mul 40 jt) ?_
            refine lv_iload hx hb gX12_sheet_4.2.2.2.2.2.1 (lv_at0 hl) ?_
            refine lv_iadd hx hb gX12_sheet_4.2.2.2.2.2.2.1 ?_
            refine eqi (x1 := nI (40 * jt + kP)) (nI_add (40 * jt) kP) ?_
            refine lv_iconst (v := 0) hx hb gX12_sheet_4.2.2.2.2.2.2.2.1 (by decide) ?_
            refine astN hC hK hP hD hS 3 (ws' := [(h0, oX12 nw nk mhasKept nt mtaped nr mrowMany mroundOf mroundFrom mouts nm mfromHour mtoHour ns mfrom mto msort misFault mdeep mcoded mlines nl nc nF np ntr nb mbestCost nso nsi nit nsh nsf nss nrc mtraced mdealer mnumber mwhose msize misParted), (nso, iA G 4 (upd fnso jt x2)), (nsi, iA G 4 (upd fnsi jt 0)), (nit, iA G 160 (upd vI (40 * jt + kP) 0))]) rfl (k := (40 * jt + kP)) (by omega) (Nat.le_of_ble_eq_true rfl) (rfl) gX12_sheet_4.2.2.2.2.2.2.2.2.1 (fun H locs hP hD hS => ?_)
            refine lv_iinc (v := nI (kP + 1)) (lv' := [(4, .int (nI (kP + 1))), (0, .ref h0), (1, .int (nI jt)), (2, .int x2), (3, .int x3)]) hx hb gX12_sheet_4.2.2.2.2.2.2.2.2.2 hl (k := 0) rfl (nI_1 _) (by decide) rfl (fun ls hl => ?_)
            refine lv_goto (tgt := 64) hx hb gX12_sheet_5.1 (by decide) ?_
            exact ihP (kP + 1) (upd vI (40 * jt + kP) 0) _ _ _ (by omega) (by first | assumption | exact Or.inl rfl | exact Or.inr rfl | exact ZR.zero | exact ZR.next hzr (by omega)) (And.intro hP hD) hS (lv_sub hl [0, 1, 2, 3, 4] rfl)
        exact keyP 40 0 fnit _ _ _ (by omega) (by first | assumption | exact Or.inl rfl | exact Or.inr rfl | exact ZR.zero | exact ZR.next hzr (by omega)) (And.intro hP hD) hS (lv_sub hl [0, 1, 2, 3, 4] rfl)
      · refine lv_iload_n hx hb gX12_sheet_1.1 rfl (lv_at3 hl) ?_
        refine lv_bipush (v := 40) hx hb gX12_sheet_1.2.1 (by decide) ?_
        refine lv_icmp_le (tgt := 28) hx hb gX12_sheet_1.2.2.1 (by decide) (fun c_23_6392 => ?_) (fun c_23_6392 => ?_)
        · refine lv_iload_n hx hb gX12_sheet_1.2.2.2.2.2.1 rfl (lv_at2 hl) ?_
          refine lv_if_lt (tgt := 39) hx hb gX12_sheet_1.2.2.2.2.2.2.1 (by decide) (fun c9 => absurd c9 (c_17_6391)) (fun _ => ?_)
          refine lv_iload_n hx hb gX12_sheet_1.2.2.2.2.2.2.2.1 rfl (lv_at3 hl) ?_
          refine lv_if_ge (tgt := 39) hx hb gX12_sheet_1.2.2.2.2.2.2.2.2.1 (by decide) (fun c_33_6393 => ?_) (fun c_33_6393 => ?_)
          · obtain ⟨jt, hjt, rfl⟩ := Wi_nat (N := 3) (by decide) a6388
            refine lv_aload_n hx hb gX12_sheet_2.2.1 rfl (lv_at0 hl) ?_
            refine gf_X12_63 hC rfl hK hP 0 rfl rfl gX12_sheet_2.2.2.1 ?_
            refine lv_iload_n hx hb gX12_sheet_2.2.2.2.1 rfl (lv_at1 hl) ?_
            refine lv_iload_n hx hb gX12_sheet_2.2.2.2.2.1 rfl (lv_at2 hl) ?_
            refine astN hC hK hP hD hS 1 (ws' := [(h0, oX12 nw nk mhasKept nt mtaped nr mrowMany mroundOf mroundFrom mouts nm mfromHour mtoHour ns mfrom mto msort misFault mdeep mcoded mlines nl nc nF np ntr nb mbestCost nso nsi nit nsh nsf nss nrc mtraced mdealer mnumber mwhose msize misParted), (nso, iA G 4 (upd fnso jt x2)), (nsi, iA G 4 fnsi), (nit, iA G 160 fnit)]) rfl (k := jt) (by omega) (Nat.le_of_ble_eq_true rfl) (rfl) gX12_sheet_2.2.2.2.2.2.1 (fun H locs hP hD hS => ?_)
            refine lv_aload_n hx hb gX12_sheet_2.2.2.2.2.2.2.1 rfl (lv_at0 hl) ?_
            refine gf_X12_66 hC rfl hK hP 0 rfl rfl gX12_sheet_2.2.2.2.2.2.2.2.1 ?_
            refine lv_iload_n hx hb gX12_sheet_2.2.2.2.2.2.2.2.2.1 rfl (lv_at1 hl) ?_
            refine lv_iload_n hx hb gX12_sheet_2.2.2.2.2.2.2.2.2.2 rfl (lv_at2 hl) ?_
            refine lv_if_ge (tgt := 59) hx hb gX12_sheet_3.1 (by decide) (fun _ => ?_) (fun c9 => absurd (Int32.not_lt.mp c_17_6391) c9)
            refine lv_iload_n hx hb gX12_sheet_3.2.2.2.1 rfl (lv_at3 hl) ?_
            refine astN hC hK hP hD hS 2 (ws' := [(h0, oX12 nw nk mhasKept nt mtaped nr mrowMany mroundOf mroundFrom mouts nm mfromHour mtoHour ns mfrom mto msort misFault mdeep mcoded mlines nl nc nF np ntr nb mbestCost nso nsi nit nsh nsf nss nrc mtraced mdealer mnumber mwhose msize misParted), (nso, iA G 4 (upd fnso jt x2)), (nsi, iA G 4 (upd fnsi jt x3)), (nit, iA G 160 fnit)]) rfl (k := jt) (by omega) (Nat.le_of_ble_eq_true rfl) (rfl) gX12_sheet_3.2.2.2.2.1 (fun H locs hP hD hS => ?_)
            have hZ2 : SZ (upd fnsi jt x3) := SZ.set hZ (Int32.not_lt.mpr c_33_6393) c_23_6392
            refine lv_iconst (v := 0) hx hb gX12_sheet_3.2.2.2.2.2.1 (by decide) ?_
            refine lv_istore (lv' := [(4, .int 0), (0, .ref h0), (1, .int (nI jt)), (2, .int x2), (3, .int x3)]) hx hb gX12_sheet_3.2.2.2.2.2.2.1 hl (by decide) rfl (fun ls hl => ?_)
            have keyP : ∀ (nP kP : Nat) (vI : Nat → Int32) (H : Heap) (locs : List Loc) (ls : Array Slot), kP + nP = 40 → (ZR fnit vI jt kP) → va_PD G A [(h0, oX12 nw nk mhasKept nt mtaped nr mrowMany mroundOf mroundFrom mouts nm mfromHour mtoHour ns mfrom mto msort misFault mdeep mcoded mlines nl nc nF np ntr nb mbestCost nso nsi nit nsh nsf nss nrc mtraced mdealer mnumber mwhose msize misParted), (nso, iA G 4 (upd fnso jt x2)), (nsi, iA G 4 (upd fnsi jt x3)), (nit, iA G 160 vI)] H → va_S A s.heap H locs → lv_has ls 5 [(4, .int (nI kP)), (0, .ref h0), (1, .int (nI jt)), (2, .int x2), (3, .int x3)] → W p l e (RM 3 0 0) s m ([.ref h0, .int (nI jt), .int x2, .int x3] : List Value).toArray below meth c H locs 0 0 Q0 (F0 m 64 ls []) := by
              intro nP
              induction nP with
              | zero =>
                intro kP vI H locs ls hkP hzr hPD hS hl
                refine Kan2 hPD (fun hP hD => ?_)
                obtain rfl : 40 = kP := by omega
                have hl : lv_has ls 5 [(4, .int 40), (0, .ref h0), (1, .int (nI jt)), (2, .int x2), (3, .int x3)] := hl
                refine lv_iload hx hb gX12_sheet_3.2.2.2.2.2.2.2.1 (lv_at0 hl) ?_
                refine lv_bipush (v := 40) hx hb gX12_sheet_3.2.2.2.2.2.2.2.2.1 (by decide) ?_
                refine lv_icmp_ge (tgt := 90) hx hb gX12_sheet_3.2.2.2.2.2.2.2.2.2 (by decide) (fun _ => ?_) (fun c9 => absurd (by decide) c9)
                refine lv_iconst (v := 1) hx hb gX12_sheet_5.2.1 (by decide) ?_
                refine toQ hQ0 ?_
                exact RI (v := 1) hC hP hD hS [0, 1, 2, 3] (upd fnso jt x2, upd fnsi jt x3, vI) rfl rfl (by decide) (⟨(by first | rfl | (simp only [ifc_t hZ, ifc_t a6388, ifc_t a6390, ifc_f c_17_6391, ifc_t c_23_6392, ifc_t c_33_6393, ifc_f (q := x2 < 0) c_17_6391, ifc_f (q := x3 < 0) (Int32.not_lt.mpr c_33_6393)]; done) | (simp only [ifc_t hZ, ifc_t a6388, ifc_t a6390, ifc_f c_17_6391, ifc_t c_23_6392, ifc_t c_33_6393, ifc_f (q := x2 < 0) c_17_6391, ifc_f (q := x3 < 0) (Int32.not_lt.mpr c_33_6393)]; rfl)), ⟨by assumption, ⟨fun h9 => absurd h9.2.2 c_17_6391, fun _ => (by rw [nI_clamp (n := jt) (by omega)]; exact ⟨rfl, rfl, hzr⟩), fun _ h9 => absurd ⟨a6388, a6390, c_17_6391, c_23_6392, (Int32.not_lt.mpr c_33_6393)⟩ h9⟩⟩⟩) rfl gX12_sheet_5.2.2
              | succ nP ihP =>
                intro kP vI H locs ls hkP hzr hPD hS hl
                refine Kan2 hPD (fun hP hD => ?_)
                refine lv_iload hx hb gX12_sheet_3.2.2.2.2.2.2.2.1 (lv_at0 hl) ?_
                refine lv_bipush (v := 40) hx hb gX12_sheet_3.2.2.2.2.2.2.2.2.1 (by decide) ?_
                refine lv_icmp_ge (tgt := 90) hx hb gX12_sheet_3.2.2.2.2.2.2.2.2.2 (by decide) (fun c9 => absurd c9 (nI_ge (a := kP) (b := 40) (by omega) (by omega))) (fun _ => ?_)
                refine lv_aload_n hx hb gX12_sheet_4.1 rfl (lv_at1 hl) ?_
                refine gf_X12_69 hC rfl hK hP 0 rfl rfl gX12_sheet_4.2.1 ?_
                refine lv_bipush (v := 40) hx hb gX12_sheet_4.2.2.1 (by decide) ?_
                refine lv_iload_n hx hb gX12_sheet_4.2.2.2.1 rfl (lv_at2 hl) ?_
                refine lv_imul hx hb gX12_sheet_4.2.2.2.2.1 ?_
                refine eqi (x1 := nI (40 * jt)) (nI_mul 40 jt) ?_
                refine lv_iload hx hb gX12_sheet_4.2.2.2.2.2.1 (lv_at0 hl) ?_
                refine lv_iadd hx hb gX12_sheet_4.2.2.2.2.2.2.1 ?_
                refine eqi (x1 := nI (40 * jt + kP)) (nI_add (40 * jt) kP) ?_
                refine lv_iconst (v := 0) hx hb gX12_sheet_4.2.2.2.2.2.2.2.1 (by decide) ?_
                refine astN hC hK hP hD hS 3 (ws' := [(h0, oX12 nw nk mhasKept nt mtaped nr mrowMany mroundOf mroundFrom mouts nm mfromHour mtoHour ns mfrom mto msort misFault mdeep mcoded mlines nl nc nF np ntr nb mbestCost nso nsi nit nsh nsf nss nrc mtraced mdealer mnumber mwhose msize misParted), (nso, iA G 4 (upd fnso jt x2)), (nsi, iA G 4 (upd fnsi jt x3)), (nit, iA G 160 (upd vI (40 * jt + kP) 0))]) rfl (k := (40 * jt + kP)) (by omega) (Nat.le_of_ble_eq_true rfl) (rfl) gX12_sheet_4.2.2.2.2.2.2.2.2.1 (fun H locs hP hD hS => ?_)
                refine lv_iinc (v := nI (kP + 1)) (lv' := [(4, .int (nI (kP + 1))), (0, .ref h0), (1, .int (nI jt)), (2, .int x2), (3, .int x3)]) hx hb gX12_sheet_4.2.2.2.2.2.2.2.2.2 hl (k := 0) rfl (nI_1 _) (by decide) rfl (fun ls hl => ?_)
                refine lv_goto (tgt := 64) hx hb gX12_sheet_5.1 (by decide) ?_
                exact ihP (kP + 1) (upd vI (40 * jt + kP) 0) _ _ _ (by omega) (by first | assumption | exact Or.inl rfl | exact Or.inr rfl | exact ZR.zero | exact ZR.next hzr (by omega)) (And.intro hP hD) hS (lv_sub hl [0, 1, 2, 3, 4] rfl)
            exact keyP 40 0 fnit _ _ _ (by omega) (by first | assumption | exact Or.inl rfl | exact Or.inr rfl | exact ZR.zero | exact ZR.next hzr (by omega)) (And.intro hP hD) hS (lv_sub hl [0, 1, 2, 3, 4] rfl)
          · refine lv_bipush (v := (-14)) hx hb gX12_sheet_1.2.2.2.2.2.2.2.2.2 (by decide) ?_
            refine toQ hQ0 ?_
            exact RI (v := (-14)) hC hP hD hS [0, 1, 2, 3] (fnso, fnsi, fnit) rfl rfl (by decide) (⟨(by first | rfl | (simp only [ifc_t hZ, ifc_t a6388, ifc_t a6390, ifc_f c_17_6391, ifc_t c_23_6392, ifc_f c_33_6393, ifc_f (q := x2 < 0) c_17_6391, ifc_t (q := x3 < 0) (Int32.not_le.mp c_33_6393)]; done) | (simp only [ifc_t hZ, ifc_t a6388, ifc_t a6390, ifc_f c_17_6391, ifc_t c_23_6392, ifc_f c_33_6393, ifc_f (q := x2 < 0) c_17_6391, ifc_t (q := x3 < 0) (Int32.not_le.mp c_33_6393)]; rfl)), ⟨hZ, ⟨fun h9 => absurd h9.2.2 c_17_6391, fun h9 => absurd (Int32.not_le.mp c_33_6393) h9.2.2.2.2, fun _ _ => ⟨rfl, rfl, rfl⟩⟩⟩⟩) rfl gX12_sheet_2.1
        · refine lv_iconst (v := (-1)) hx hb gX12_sheet_1.2.2.2.1 (by decide) ?_
          refine toQ hQ0 ?_
          exact RI (v := (-1)) hC hP hD hS [0, 1, 2, 3] (fnso, fnsi, fnit) rfl rfl (by decide) (⟨(by first | rfl | (simp only [ifc_t hZ, ifc_t a6388, ifc_t a6390, ifc_f c_17_6391, ifc_f c_23_6392, ifc_f (q := x2 < 0) c_17_6391]; done) | (simp only [ifc_t hZ, ifc_t a6388, ifc_t a6390, ifc_f c_17_6391, ifc_f c_23_6392, ifc_f (q := x2 < 0) c_17_6391]; rfl)), ⟨hZ, ⟨fun h9 => absurd h9.2.2 c_17_6391, fun h9 => absurd h9.2.2.2.1 c_23_6392, fun _ _ => ⟨rfl, rfl, rfl⟩⟩⟩⟩) rfl gX12_sheet_1.2.2.2.2.1
    · refine lv_if_eq (tgt := 26) hx hb gX12_sheet_0.2.2.2.2.2.2.2.1 (by decide) (fun _ => ?_) (fun c9 => absurd (by decide) c9)
      refine lv_iconst (v := (-1)) hx hb gX12_sheet_1.2.2.2.1 (by decide) ?_
      refine toQ hQ0 ?_
      exact RI (v := (-1)) hC hP hD hS [0, 1, 2, 3] (fnso, fnsi, fnit) rfl rfl (by decide) (⟨(by first | rfl | (simp only [ifc_t hZ, ifc_t a6388, ifc_f a6390]; done) | (simp only [ifc_t hZ, ifc_t a6388, ifc_f a6390]; rfl)), ⟨hZ, ⟨fun h9 => absurd h9.2.1 a6390, fun h9 => absurd h9.2.1 a6390, fun _ _ => ⟨rfl, rfl, rfl⟩⟩⟩⟩) rfl gX12_sheet_1.2.2.2.2.1
  · refine lv_if_eq (tgt := 26) hx hb gX12_sheet_0.2.2.1 (by decide) (fun _ => ?_) (fun c9 => absurd (by decide) c9)
    refine lv_iconst (v := (-1)) hx hb gX12_sheet_1.2.2.2.1 (by decide) ?_
    refine toQ hQ0 ?_
    exact RI (v := (-1)) hC hP hD hS [0, 1, 2, 3] (fnso, fnsi, fnit) rfl rfl (by decide) (⟨(by first | rfl | (simp only [ifc_t hZ, ifc_f a6388]; done) | (simp only [ifc_t hZ, ifc_f a6388]; rfl)), ⟨hZ, ⟨fun h9 => absurd h9.1 a6388, fun h9 => absurd h9.1 a6388, fun _ _ => ⟨rfl, rfl, rfl⟩⟩⟩⟩) rfl gX12_sheet_1.2.2.2.2.1
def K_w_put (l : Launch) (G : GG) (h0 : Nat) (x1 : Int32) (x2 : Int32) (x3 : Int32) (nw : Nat) (nk : Nat) (mhasKept : Int32) (nt : Nat) (mtaped : Int32) (nr : Nat) (mrowMany : Int32) (mroundOf : Int32) (mroundFrom : Int32) (mouts : Int32) (nm : Nat) (mfromHour : Int32) (mtoHour : Int32) (ns : Nat) (mfrom : Int32) (mto : Int32) (msort : Int32) (misFault : Int32) (mdeep : Int32) (mcoded : Int32) (mlines : Int32) (nl : Nat) (nc : Nat) (nF : Nat) (np : Nat) (ntr : Nat) (nb : Nat) (mbestCost : Int32) (nso : Nat) (nsi : Nat) (nit : Nat) (nsh : Nat) (nsf : Nat) (nss : Nat) (nrc : Nat) (mtraced : Int32) (mdealer : Int32) (mnumber : Int32) (mwhose : Int32) (msize : Int32) (misParted : Int32) (fnso : Nat → Int32) (fnsi : Nat → Int32) (fnit : Nat → Int32) : Prop := MI l G yX12_put cX12_put 4 (some .int) 3 0 0 [.ref h0, .int x1, .int x2, .int x3] [(h0, oX12 nw nk mhasKept nt mtaped nr mrowMany mroundOf mroundFrom mouts nm mfromHour mtoHour ns mfrom mto msort misFault mdeep mcoded mlines nl nc nF np ntr nb mbestCost nso nsi nit nsh nsf nss nrc mtraced mdealer mnumber mwhose msize misParted), (nso, iA G 4 fnso), (nsi, iA G 4 fnsi), (nit, iA G 160 fnit)] (fun (r : Int32) (u : (Nat → Int32)) => (r = ifc (Wi x1 0 3) (ifc (fnso x1.toNatClampNeg < 0) (-11) (ifc (Wi x2 0 (fnsi x1.toNatClampNeg - 1)) 1 (-12))) (-1)) ∧ (∀ i : Nat, u i = ifc (Wi x1 0 3) (ifc (fnso x1.toNatClampNeg < 0) (fnit i) (ifc (Wi x2 0 (fnsi x1.toNatClampNeg - 1)) (upd fnit (40 * x1.toNatClampNeg + x2.toNatClampNeg) (NARW (fnso x1.toNatClampNeg) x3) i) (fnit i))) (fnit i))) (fun u : (Nat → Int32) => [(h0, oX12 nw nk mhasKept nt mtaped nr mrowMany mroundOf mroundFrom mouts nm mfromHour mtoHour ns mfrom mto msort misFault mdeep mcoded mlines nl nc nF np ntr nb mbestCost nso nsi nit nsh nsf nss nrc mtraced mdealer mnumber mwhose msize misParted), (nso, iA G 4 fnso), (nsi, iA G 4 fnsi), (nit, iA G 160 u)])
set_option maxHeartbeats 4000000 in
set_option maxRecDepth 100000 in
theorem w_put (l : Launch) (G : GG) (h0 : Nat) (x1 : Int32) (x2 : Int32) (x3 : Int32) (nw : Nat) (nk : Nat) (mhasKept : Int32) (nt : Nat) (mtaped : Int32) (nr : Nat) (mrowMany : Int32) (mroundOf : Int32) (mroundFrom : Int32) (mouts : Int32) (nm : Nat) (mfromHour : Int32) (mtoHour : Int32) (ns : Nat) (mfrom : Int32) (mto : Int32) (msort : Int32) (misFault : Int32) (mdeep : Int32) (mcoded : Int32) (mlines : Int32) (nl : Nat) (nc : Nat) (nF : Nat) (np : Nat) (ntr : Nat) (nb : Nat) (mbestCost : Int32) (nso : Nat) (nsi : Nat) (nit : Nat) (nsh : Nat) (nsf : Nat) (nss : Nat) (nrc : Nat) (mtraced : Int32) (mdealer : Int32) (mnumber : Int32) (mwhose : Int32) (msize : Int32) (misParted : Int32) (fnso : Nat → Int32) (fnsi : Nat → Int32) (fnit : Nat → Int32) (hZ : SZ fnsi) : K_w_put l G h0 x1 x2 x3 nw nk mhasKept nt mtaped nr mrowMany mroundOf mroundFrom mouts nm mfromHour mtoHour ns mfrom mto msort misFault mdeep mcoded mlines nl nc nF np ntr nb mbestCost nso nsi nit nsh nsf nss nrc mtraced mdealer mnumber mwhose msize misParted fnso fnsi fnit := by
  refine MI.start (by decide +kernel) (Nat.le_of_ble_eq_true rfl) ?_
  intro p e s m below meth c A ls hC hK hP hD hS hA hl
  refine absQ (fun Q0 hQ0 => ?_)
  have hl : lv_has ls 4 [(0, .ref h0), (1, .int x1), (2, .int x2), (3, .int x3)] := hl
  refine Kan8 hC (fun hx hb hr hml hB hown hlocks hnm => ?_)
  refine lv_iload_n hx hb gX12_put_0.1 rfl (lv_at1 hl) ?_
  refine pS hC hK hl (m_isFour l G x1) si_X12_336 rfl rfl (Nat.le_of_ble_eq_true rfl) rm_3_2_1 ⟨by first | exact Nat.le_of_ble_eq_true rfl | exact Nat.zero_le _, by first | exact Nat.le_of_ble_eq_true rfl | exact Nat.zero_le _⟩ gX12_put_0.2.1 (Kors (Keqa fun a6395 => ?_) (Keqa fun a6395 => ?_))
  · refine lv_if_ne (tgt := 9) hx hb gX12_put_0.2.2.1 (by decide) (fun _ => ?_) (fun c9 => absurd c9 (by decide))
    obtain ⟨jt, hjt, rfl⟩ := Wi3 a6395
    refine lv_aload_n hx hb gX12_put_0.2.2.2.2.2.1 rfl (lv_at0 hl) ?_
    refine gf_X12_63 hC rfl hK hP 0 rfl rfl gX12_put_0.2.2.2.2.2.2.1 ?_
    refine lv_iload_n hx hb gX12_put_0.2.2.2.2.2.2.2.1 rfl (lv_at1 hl) ?_
    refine aldN hC hK hP 1 rfl (k := jt) (by omega) (Nat.le_of_ble_eq_true rfl) (v := fnso jt) rfl gX12_put_0.2.2.2.2.2.2.2.2.1 ?_
    refine lv_if_ge (tgt := 21) hx hb gX12_put_0.2.2.2.2.2.2.2.2.2 (by decide) (fun c_15_6396 => ?_) (fun c_15_6396 => ?_)
    · refine lv_iload_n hx hb gX12_put_1.2.2.1 rfl (lv_at2 hl) ?_
      refine lv_iconst (v := 0) hx hb gX12_put_1.2.2.2.1 (by decide) ?_
      refine lv_aload_n hx hb gX12_put_1.2.2.2.2.1 rfl (lv_at0 hl) ?_
      refine gf_X12_66 hC rfl hK hP 0 rfl rfl gX12_put_1.2.2.2.2.2.1 ?_
      refine lv_iload_n hx hb gX12_put_1.2.2.2.2.2.2.1 rfl (lv_at1 hl) ?_
      refine aldN hC hK hP 2 rfl (k := jt) (by omega) (Nat.le_of_ble_eq_true rfl) (v := fnsi jt) rfl gX12_put_1.2.2.2.2.2.2.2.1 ?_
      refine lv_iconst (v := 1) hx hb gX12_put_1.2.2.2.2.2.2.2.2.1 (by decide) ?_
      refine lv_isub hx hb gX12_put_1.2.2.2.2.2.2.2.2.2 ?_
      refine pS hC hK hl (m_within l G x2 0 ((fnsi jt) - 1)) si_X12_84 rfl rfl (Nat.le_of_ble_eq_true rfl) rm_3_1_3 ⟨by first | exact Nat.le_of_ble_eq_true rfl | exact Nat.zero_le _, by first | exact Nat.le_of_ble_eq_true rfl | exact Nat.zero_le _⟩ gX12_put_2.1 (Kors (Keqa fun a6398 => ?_) (Keqa fun a6398 => ?_))
      · refine lv_if_ne (tgt := 40) hx hb gX12_put_2.2.1 (by decide) (fun _ => ?_) (fun c9 => absurd c9 (by decide))
        obtain ⟨ji, hji, rfl⟩ := SZ.at hZ (i := jt) (by omega) rfl a6398
        refine lv_aload_n hx hb gX12_put_2.2.2.2.2.1 rfl (lv_at0 hl) ?_
        refine gf_X12_69 hC rfl hK hP 0 rfl rfl gX12_put_2.2.2.2.2.2.1 ?_
        refine lv_bipush (v := 40) hx hb gX12_put_2.2.2.2.2.2.2.1 (by decide) ?_
        refine lv_iload_n hx hb gX12_put_2.2.2.2.2.2.2.2.1 rfl (lv_at1 hl) ?_
        refine lv_imul hx hb gX12_put_2.2.2.2.2.2.2.2.2.1 ?_
        refine eqi (x1 := nI (40 * jt)) (nI_mul 40 jt) ?_
        refine lv_iload_n hx hb gX12_put_2.2.2.2.2.2.2.2.2.2 rfl (lv_at2 hl) ?_
        refine lv_iadd hx hb gX12_put_3.1 ?_
        refine eqi (x1 := nI (40 * jt + ji)) (nI_add (40 * jt) ji) ?_
        refine lv_aload_n hx hb gX12_put_3.2.1 rfl (lv_at0 hl) ?_
        refine gf_X12_63 hC rfl hK hP 0 rfl rfl gX12_put_3.2.2.1 ?_
        refine lv_iload_n hx hb gX12_put_3.2.2.2.1 rfl (lv_at1 hl) ?_
        refine aldN hC hK hP 1 rfl (k := jt) (by omega) (Nat.le_of_ble_eq_true rfl) (v := fnso jt) rfl gX12_put_3.2.2.2.2.1 ?_
        refine lv_if_ne (tgt := 64) hx hb gX12_put_3.2.2.2.2.2.1 (by decide) (fun c_56_6399 => ?_) (fun c_56_6399 => ?_)
        · refine lv_aload_n hx hb gX12_put_3.2.2.2.2.2.2.2.2.2 rfl (lv_at0 hl) ?_
          refine gf_X12_63 hC rfl hK hP 0 rfl rfl gX12_put_4.1 ?_
          refine lv_iload_n hx hb gX12_put_4.2.1 rfl (lv_at1 hl) ?_
          refine aldN hC hK hP 1 rfl (k := jt) (by omega) (Nat.le_of_ble_eq_true rfl) (v := fnso jt) rfl gX12_put_4.2.2.1 ?_
          refine lv_iconst (v := 1) hx hb gX12_put_4.2.2.2.1 (by decide) ?_
          refine lv_icmp_ne (tgt := 79) hx hb gX12_put_4.2.2.2.2.1 (by decide) (fun c_71_6400 => ?_) (fun c_71_6400 => ?_)
          · refine lv_aload_n hx hb gX12_put_4.2.2.2.2.2.2.2.2.1 rfl (lv_at0 hl) ?_
            refine gf_X12_63 hC rfl hK hP 0 rfl rfl gX12_put_4.2.2.2.2.2.2.2.2.2 ?_
            refine lv_iload_n hx hb gX12_put_5.1 rfl (lv_at1 hl) ?_
            refine aldN hC hK hP 1 rfl (k := jt) (by omega) (Nat.le_of_ble_eq_true rfl) (v := fnso jt) rfl gX12_put_5.2.1 ?_
            refine lv_iconst (v := 4) hx hb gX12_put_5.2.2.1 (by decide) ?_
            refine lv_icmp_ne (tgt := 101) hx hb gX12_put_5.2.2.2.1 (by decide) (fun c_86_6401 => ?_) (fun c_86_6401 => ?_)
            · refine lv_iload_n hx hb gX12_put_6.1 rfl (lv_at3 hl) ?_
              refine astN hC hK hP hD hS 3 (ws' := [(h0, oX12 nw nk mhasKept nt mtaped nr mrowMany mroundOf mroundFrom mouts nm mfromHour mtoHour ns mfrom mto msort misFault mdeep mcoded mlines nl nc nF np ntr nb mbestCost nso nsi nit nsh nsf nss nrc mtraced mdealer mnumber mwhose msize misParted), (nso, iA G 4 fnso), (nsi, iA G 4 fnsi), (nit, iA G 160 (upd fnit (40 * jt + ji) x3))]) rfl (k := (40 * jt + ji)) (by omega) (Nat.le_of_ble_eq_true rfl) (rfl) gX12_put_6.2.1 (fun H locs hP hD hS => ?_)
              refine lv_iconst (v := 1) hx hb gX12_put_6.2.2.1 (by decide) ?_
              refine toQ hQ0 ?_
              exact RI (v := 1) hC hP hD hS [0, 1, 2, 3] (upd fnit (40 * jt + ji) x3) rfl rfl (by decide) (⟨(by first | rfl | (simp only [nI_clamp (n := jt) (by omega), nI_clamp (n := ji) (by omega), ifc_t hZ, ifc_t a6395, ifc_t c_15_6396, ifc_t a6398, ifc_f c_56_6399, ifc_f c_71_6400, ifc_f c_86_6401, ifc_f (q := (fnso jt) < 0) (Int32.not_lt.mpr c_15_6396)]; done) | (simp only [nI_clamp (n := jt) (by omega), nI_clamp (n := ji) (by omega), ifc_t hZ, ifc_t a6395, ifc_t c_15_6396, ifc_t a6398, ifc_f c_56_6399, ifc_f c_71_6400, ifc_f c_86_6401, ifc_f (q := (fnso jt) < 0) (Int32.not_lt.mpr c_15_6396)]; rfl)), (fun i => by simp only [nI_clamp (n := jt) (by omega), nI_clamp (n := ji) (by omega), ifc_t hZ, ifc_t a6395, ifc_t c_15_6396, ifc_t a6398, ifc_f c_56_6399, ifc_f c_71_6400, ifc_f c_86_6401, ifc_f (q := (fnso jt) < 0) (Int32.not_lt.mpr c_15_6396)]; exact congrArg (fun z9 => upd fnit (40 * jt + ji) z9 i) (show x3 = NARW (fnso jt) x3 from by unfold NARW; first | (simp only [ifc_t hZ, ifc_t a6395, ifc_t c_15_6396, ifc_t a6398, ifc_f c_56_6399, ifc_f c_71_6400, ifc_f c_86_6401]; done) | (simp only [ifc_t hZ, ifc_t a6395, ifc_t c_15_6396, ifc_t a6398, ifc_f c_56_6399, ifc_f c_71_6400, ifc_f c_86_6401]; rfl)))⟩) rfl gX12_put_6.2.2.2
            · refine lv_iload_n hx hb gX12_put_5.2.2.2.2.1 rfl (lv_at3 hl) ?_
              refine lv_if_eq (tgt := 97) hx hb gX12_put_5.2.2.2.2.2.1 (by decide) (fun c_90_6402 => ?_) (fun c_90_6402 => ?_)
              · refine lv_iconst (v := 0) hx hb gX12_put_5.2.2.2.2.2.2.2.2.1 (by decide) ?_
                refine lv_goto (tgt := 102) hx hb gX12_put_5.2.2.2.2.2.2.2.2.2 (by decide) ?_
                refine astN hC hK hP hD hS 3 (ws' := [(h0, oX12 nw nk mhasKept nt mtaped nr mrowMany mroundOf mroundFrom mouts nm mfromHour mtoHour ns mfrom mto msort misFault mdeep mcoded mlines nl nc nF np ntr nb mbestCost nso nsi nit nsh nsf nss nrc mtraced mdealer mnumber mwhose msize misParted), (nso, iA G 4 fnso), (nsi, iA G 4 fnsi), (nit, iA G 160 (upd fnit (40 * jt + ji) 0))]) rfl (k := (40 * jt + ji)) (by omega) (Nat.le_of_ble_eq_true rfl) (rfl) gX12_put_6.2.1 (fun H locs hP hD hS => ?_)
                refine lv_iconst (v := 1) hx hb gX12_put_6.2.2.1 (by decide) ?_
                refine toQ hQ0 ?_
                exact RI (v := 1) hC hP hD hS [0, 1, 2, 3] (upd fnit (40 * jt + ji) 0) rfl rfl (by decide) (⟨(by first | rfl | (simp only [nI_clamp (n := jt) (by omega), nI_clamp (n := ji) (by omega), ifc_t hZ, ifc_t a6395, ifc_t c_15_6396, ifc_t a6398, ifc_f c_56_6399, ifc_f c_71_6400, ifc_t c_86_6401, ifc_t c_90_6402, ifc_f (q := (fnso jt) < 0) (Int32.not_lt.mpr c_15_6396)]; done) | (simp only [nI_clamp (n := jt) (by omega), nI_clamp (n := ji) (by omega), ifc_t hZ, ifc_t a6395, ifc_t c_15_6396, ifc_t a6398, ifc_f c_56_6399, ifc_f c_71_6400, ifc_t c_86_6401, ifc_t c_90_6402, ifc_f (q := (fnso jt) < 0) (Int32.not_lt.mpr c_15_6396)]; rfl)), (fun i => by simp only [nI_clamp (n := jt) (by omega), nI_clamp (n := ji) (by omega), ifc_t hZ, ifc_t a6395, ifc_t c_15_6396, ifc_t a6398, ifc_f c_56_6399, ifc_f c_71_6400, ifc_t c_86_6401, ifc_t c_90_6402, ifc_f (q := (fnso jt) < 0) (Int32.not_lt.mpr c_15_6396)]; exact congrArg (fun z9 => upd fnit (40 * jt + ji) z9 i) (show 0 = NARW (fnso jt) x3 from by unfold NARW; first | (simp only [ifc_t hZ, ifc_t a6395, ifc_t c_15_6396, ifc_t a6398, ifc_f c_56_6399, ifc_f c_71_6400, ifc_t c_86_6401, ifc_t c_90_6402, ifc_f (q := fnso jt = 0) (by rw [c_86_6401]; decide), ifc_f (q := fnso jt = 1) (by rw [c_86_6401]; decide)]; done) | (simp only [ifc_t hZ, ifc_t a6395, ifc_t c_15_6396, ifc_t a6398, ifc_f c_56_6399, ifc_f c_71_6400, ifc_t c_86_6401, ifc_t c_90_6402, ifc_f (q := fnso jt = 0) (by rw [c_86_6401]; decide), ifc_f (q := fnso jt = 1) (by rw [c_86_6401]; decide)]; rfl)))⟩) rfl gX12_put_6.2.2.2
              · refine lv_iconst (v := 1) hx hb gX12_put_5.2.2.2.2.2.2.1 (by decide) ?_
                refine lv_goto (tgt := 102) hx hb gX12_put_5.2.2.2.2.2.2.2.1 (by decide) ?_
                refine astN hC hK hP hD hS 3 (ws' := [(h0, oX12 nw nk mhasKept nt mtaped nr mrowMany mroundOf mroundFrom mouts nm mfromHour mtoHour ns mfrom mto msort misFault mdeep mcoded mlines nl nc nF np ntr nb mbestCost nso nsi nit nsh nsf nss nrc mtraced mdealer mnumber mwhose msize misParted), (nso, iA G 4 fnso), (nsi, iA G 4 fnsi), (nit, iA G 160 (upd fnit (40 * jt + ji) 1))]) rfl (k := (40 * jt + ji)) (by omega) (Nat.le_of_ble_eq_true rfl) (rfl) gX12_put_6.2.1 (fun H locs hP hD hS => ?_)
                refine lv_iconst (v := 1) hx hb gX12_put_6.2.2.1 (by decide) ?_
                refine toQ hQ0 ?_
                exact RI (v := 1) hC hP hD hS [0, 1, 2, 3] (upd fnit (40 * jt + ji) 1) rfl rfl (by decide) (⟨(by first | rfl | (simp only [nI_clamp (n := jt) (by omega), nI_clamp (n := ji) (by omega), ifc_t hZ, ifc_t a6395, ifc_t c_15_6396, ifc_t a6398, ifc_f c_56_6399, ifc_f c_71_6400, ifc_t c_86_6401, ifc_f c_90_6402, ifc_f (q := (fnso jt) < 0) (Int32.not_lt.mpr c_15_6396)]; done) | (simp only [nI_clamp (n := jt) (by omega), nI_clamp (n := ji) (by omega), ifc_t hZ, ifc_t a6395, ifc_t c_15_6396, ifc_t a6398, ifc_f c_56_6399, ifc_f c_71_6400, ifc_t c_86_6401, ifc_f c_90_6402, ifc_f (q := (fnso jt) < 0) (Int32.not_lt.mpr c_15_6396)]; rfl)), (fun i => by simp only [nI_clamp (n := jt) (by omega), nI_clamp (n := ji) (by omega), ifc_t hZ, ifc_t a6395, ifc_t c_15_6396, ifc_t a6398, ifc_f c_56_6399, ifc_f c_71_6400, ifc_t c_86_6401, ifc_f c_90_6402, ifc_f (q := (fnso jt) < 0) (Int32.not_lt.mpr c_15_6396)]; exact congrArg (fun z9 => upd fnit (40 * jt + ji) z9 i) (show 1 = NARW (fnso jt) x3 from by unfold NARW; first | (simp only [ifc_t hZ, ifc_t a6395, ifc_t c_15_6396, ifc_t a6398, ifc_f c_56_6399, ifc_f c_71_6400, ifc_t c_86_6401, ifc_f c_90_6402, ifc_f (q := fnso jt = 0) (by rw [c_86_6401]; decide), ifc_f (q := fnso jt = 1) (by rw [c_86_6401]; decide)]; done) | (simp only [ifc_t hZ, ifc_t a6395, ifc_t c_15_6396, ifc_t a6398, ifc_f c_56_6399, ifc_f c_71_6400, ifc_t c_86_6401, ifc_f c_90_6402, ifc_f (q := fnso jt = 0) (by rw [c_86_6401]; decide), ifc_f (q := fnso jt = 1) (by rw [c_86_6401]; decide)]; rfl)))⟩) rfl gX12_put_6.2.2.2
          · refine lv_iload_n hx hb gX12_put_4.2.2.2.2.2.1 rfl (lv_at3 hl) ?_
            refine lv_i2s hx hb gX12_put_4.2.2.2.2.2.2.1 rfl ?_
            refine lv_goto (tgt := 102) hx hb gX12_put_4.2.2.2.2.2.2.2.1 (by decide) ?_
            refine astN hC hK hP hD hS 3 (ws' := [(h0, oX12 nw nk mhasKept nt mtaped nr mrowMany mroundOf mroundFrom mouts nm mfromHour mtoHour ns mfrom mto msort misFault mdeep mcoded mlines nl nc nF np ntr nb mbestCost nso nsi nit nsh nsf nss nrc mtraced mdealer mnumber mwhose msize misParted), (nso, iA G 4 fnso), (nsi, iA G 4 fnsi), (nit, iA G 160 (upd fnit (40 * jt + ji) x3.toInt16.toInt32))]) rfl (k := (40 * jt + ji)) (by omega) (Nat.le_of_ble_eq_true rfl) (rfl) gX12_put_6.2.1 (fun H locs hP hD hS => ?_)
            refine lv_iconst (v := 1) hx hb gX12_put_6.2.2.1 (by decide) ?_
            refine toQ hQ0 ?_
            exact RI (v := 1) hC hP hD hS [0, 1, 2, 3] (upd fnit (40 * jt + ji) x3.toInt16.toInt32) rfl rfl (by decide) (⟨(by first | rfl | (simp only [nI_clamp (n := jt) (by omega), nI_clamp (n := ji) (by omega), ifc_t hZ, ifc_t a6395, ifc_t c_15_6396, ifc_t a6398, ifc_f c_56_6399, ifc_t c_71_6400, ifc_f (q := (fnso jt) < 0) (Int32.not_lt.mpr c_15_6396)]; done) | (simp only [nI_clamp (n := jt) (by omega), nI_clamp (n := ji) (by omega), ifc_t hZ, ifc_t a6395, ifc_t c_15_6396, ifc_t a6398, ifc_f c_56_6399, ifc_t c_71_6400, ifc_f (q := (fnso jt) < 0) (Int32.not_lt.mpr c_15_6396)]; rfl)), (fun i => by simp only [nI_clamp (n := jt) (by omega), nI_clamp (n := ji) (by omega), ifc_t hZ, ifc_t a6395, ifc_t c_15_6396, ifc_t a6398, ifc_f c_56_6399, ifc_t c_71_6400, ifc_f (q := (fnso jt) < 0) (Int32.not_lt.mpr c_15_6396)]; exact congrArg (fun z9 => upd fnit (40 * jt + ji) z9 i) (show x3.toInt16.toInt32 = NARW (fnso jt) x3 from by unfold NARW; first | (simp only [ifc_t hZ, ifc_t a6395, ifc_t c_15_6396, ifc_t a6398, ifc_f c_56_6399, ifc_t c_71_6400, ifc_f (q := fnso jt = 0) (by rw [c_71_6400]; decide), ifc_f (q := fnso jt = 4) (by rw [c_71_6400]; decide)]; done) | (simp only [ifc_t hZ, ifc_t a6395, ifc_t c_15_6396, ifc_t a6398, ifc_f c_56_6399, ifc_t c_71_6400, ifc_f (q := fnso jt = 0) (by rw [c_71_6400]; decide), ifc_f (q := fnso jt = 4) (by rw [c_71_6400]; decide)]; rfl)))⟩) rfl gX12_put_6.2.2.2
        · refine lv_iload_n hx hb gX12_put_3.2.2.2.2.2.2.1 rfl (lv_at3 hl) ?_
          refine lv_i2b hx hb gX12_put_3.2.2.2.2.2.2.2.1 rfl ?_
          refine lv_goto (tgt := 102) hx hb gX12_put_3.2.2.2.2.2.2.2.2.1 (by decide) ?_
          refine astN hC hK hP hD hS 3 (ws' := [(h0, oX12 nw nk mhasKept nt mtaped nr mrowMany mroundOf mroundFrom mouts nm mfromHour mtoHour ns mfrom mto msort misFault mdeep mcoded mlines nl nc nF np ntr nb mbestCost nso nsi nit nsh nsf nss nrc mtraced mdealer mnumber mwhose msize misParted), (nso, iA G 4 fnso), (nsi, iA G 4 fnsi), (nit, iA G 160 (upd fnit (40 * jt + ji) x3.toInt8.toInt32))]) rfl (k := (40 * jt + ji)) (by omega) (Nat.le_of_ble_eq_true rfl) (rfl) gX12_put_6.2.1 (fun H locs hP hD hS => ?_)
          refine lv_iconst (v := 1) hx hb gX12_put_6.2.2.1 (by decide) ?_
          refine toQ hQ0 ?_
          exact RI (v := 1) hC hP hD hS [0, 1, 2, 3] (upd fnit (40 * jt + ji) x3.toInt8.toInt32) rfl rfl (by decide) (⟨(by first | rfl | (simp only [nI_clamp (n := jt) (by omega), nI_clamp (n := ji) (by omega), ifc_t hZ, ifc_t a6395, ifc_t c_15_6396, ifc_t a6398, ifc_t c_56_6399, ifc_f (q := (fnso jt) < 0) (Int32.not_lt.mpr c_15_6396)]; done) | (simp only [nI_clamp (n := jt) (by omega), nI_clamp (n := ji) (by omega), ifc_t hZ, ifc_t a6395, ifc_t c_15_6396, ifc_t a6398, ifc_t c_56_6399, ifc_f (q := (fnso jt) < 0) (Int32.not_lt.mpr c_15_6396)]; rfl)), (fun i => by simp only [nI_clamp (n := jt) (by omega), nI_clamp (n := ji) (by omega), ifc_t hZ, ifc_t a6395, ifc_t c_15_6396, ifc_t a6398, ifc_t c_56_6399, ifc_f (q := (fnso jt) < 0) (Int32.not_lt.mpr c_15_6396)]; exact congrArg (fun z9 => upd fnit (40 * jt + ji) z9 i) (show x3.toInt8.toInt32 = NARW (fnso jt) x3 from by unfold NARW; first | (simp only [ifc_t hZ, ifc_t a6395, ifc_t c_15_6396, ifc_t a6398, ifc_t c_56_6399, ifc_f (q := fnso jt = 1) (by rw [c_56_6399]; decide), ifc_f (q := fnso jt = 4) (by rw [c_56_6399]; decide)]; done) | (simp only [ifc_t hZ, ifc_t a6395, ifc_t c_15_6396, ifc_t a6398, ifc_t c_56_6399, ifc_f (q := fnso jt = 1) (by rw [c_56_6399]; decide), ifc_f (q := fnso jt = 4) (by rw [c_56_6399]; decide)]; rfl)))⟩) rfl gX12_put_6.2.2.2
      · refine lv_if_ne (tgt := 40) hx hb gX12_put_2.2.1 (by decide) (fun c9 => absurd (by decide) c9) (fun _ => ?_)
        refine lv_bipush (v := (-12)) hx hb gX12_put_2.2.2.1 (by decide) ?_
        refine toQ hQ0 ?_
        exact RI (v := (-12)) hC hP hD hS [0, 1, 2, 3] fnit rfl rfl (by decide) (⟨(by first | rfl | (simp only [nI_clamp (n := jt) (by omega), ifc_t hZ, ifc_t a6395, ifc_t c_15_6396, ifc_f a6398, ifc_f (q := (fnso jt) < 0) (Int32.not_lt.mpr c_15_6396)]; done) | (simp only [nI_clamp (n := jt) (by omega), ifc_t hZ, ifc_t a6395, ifc_t c_15_6396, ifc_f a6398, ifc_f (q := (fnso jt) < 0) (Int32.not_lt.mpr c_15_6396)]; rfl)), (fun i => by first | rfl | (simp only [nI_clamp (n := jt) (by omega), ifc_t hZ, ifc_t a6395, ifc_t c_15_6396, ifc_f a6398, ifc_f (q := (fnso jt) < 0) (Int32.not_lt.mpr c_15_6396)]; done) | (simp only [nI_clamp (n := jt) (by omega), ifc_t hZ, ifc_t a6395, ifc_t c_15_6396, ifc_f a6398, ifc_f (q := (fnso jt) < 0) (Int32.not_lt.mpr c_15_6396)]; rfl))⟩) rfl gX12_put_2.2.2.2.1
    · refine lv_bipush (v := (-11)) hx hb gX12_put_1.1 (by decide) ?_
      refine toQ hQ0 ?_
      exact RI (v := (-11)) hC hP hD hS [0, 1, 2, 3] fnit rfl rfl (by decide) (⟨(by first | rfl | (simp only [nI_clamp (n := jt) (by omega), ifc_t hZ, ifc_t a6395, ifc_f c_15_6396, ifc_t (q := (fnso jt) < 0) (Int32.not_le.mp c_15_6396)]; done) | (simp only [nI_clamp (n := jt) (by omega), ifc_t hZ, ifc_t a6395, ifc_f c_15_6396, ifc_t (q := (fnso jt) < 0) (Int32.not_le.mp c_15_6396)]; rfl)), (fun i => by first | rfl | (simp only [nI_clamp (n := jt) (by omega), ifc_t hZ, ifc_t a6395, ifc_f c_15_6396, ifc_t (q := (fnso jt) < 0) (Int32.not_le.mp c_15_6396)]; done) | (simp only [nI_clamp (n := jt) (by omega), ifc_t hZ, ifc_t a6395, ifc_f c_15_6396, ifc_t (q := (fnso jt) < 0) (Int32.not_le.mp c_15_6396)]; rfl))⟩) rfl gX12_put_1.2.1
  · refine lv_if_ne (tgt := 9) hx hb gX12_put_0.2.2.1 (by decide) (fun c9 => absurd (by decide) c9) (fun _ => ?_)
    refine lv_iconst (v := (-1)) hx hb gX12_put_0.2.2.2.1 (by decide) ?_
    refine toQ hQ0 ?_
    exact RI (v := (-1)) hC hP hD hS [0, 1, 2, 3] fnit rfl rfl (by decide) (⟨(by first | rfl | (simp only [ifc_t hZ, ifc_f a6395]; done) | (simp only [ifc_t hZ, ifc_f a6395]; rfl)), (fun i => by first | rfl | (simp only [ifc_t hZ, ifc_f a6395]; done) | (simp only [ifc_t hZ, ifc_f a6395]; rfl))⟩) rfl gX12_put_0.2.2.2.2.1
def K_m_notThereX (l : Launch) (G : GG) (h0 : Nat) (jt : Nat) (so9 : Int32) (fi : Int32) (nw : Nat) (nk : Nat) (mhasKept : Int32) (nt : Nat) (mtaped : Int32) (nr : Nat) (mrowMany : Int32) (mroundOf : Int32) (mroundFrom : Int32) (mouts : Int32) (nm : Nat) (mfromHour : Int32) (mtoHour : Int32) (ns : Nat) (mfrom : Int32) (mto : Int32) (msort : Int32) (misFault : Int32) (mdeep : Int32) (mcoded : Int32) (mlines : Int32) (nl : Nat) (nc : Nat) (nF : Nat) (np : Nat) (ntr : Nat) (nb : Nat) (mbestCost : Int32) (nso : Nat) (nsi : Nat) (nit : Nat) (nsh : Nat) (nsf : Nat) (nss : Nat) (nrc : Nat) (mtraced : Int32) (mdealer : Int32) (mnumber : Int32) (mwhose : Int32) (msize : Int32) (misParted : Int32) (fnso : Nat → Int32) (fnsi : Nat → Int32) : Prop := MP l G yX12_notThere cX12_notThere 5 (some .int) 2 [.ref h0, .int (nI jt), .int so9, .int fi, .int fi] [(h0, oX12 nw nk mhasKept nt mtaped nr mrowMany mroundOf mroundFrom mouts nm mfromHour mtoHour ns mfrom mto msort misFault mdeep mcoded mlines nl nc nF np ntr nb mbestCost nso nsi nit nsh nsf nss nrc mtraced mdealer mnumber mwhose msize misParted), (nso, iA G 4 fnso), (nsi, iA G 4 fnsi)] (fun r : Int32 => (r = (-11) ∧ fnso jt < 0) ∨ (r = (-13) ∧ NTB (fnso jt) so9) ∨ (r = (-12) ∧ NTC (fnso jt) (fnsi jt) so9 fi) ∨ (r = 0 ∧ NTA (fnso jt) (fnsi jt) so9 fi))
set_option maxHeartbeats 4000000 in
set_option maxRecDepth 100000 in
theorem m_notThereX (l : Launch) (G : GG) (h0 : Nat) (jt : Nat) (so9 : Int32) (fi : Int32) (nw : Nat) (nk : Nat) (mhasKept : Int32) (nt : Nat) (mtaped : Int32) (nr : Nat) (mrowMany : Int32) (mroundOf : Int32) (mroundFrom : Int32) (mouts : Int32) (nm : Nat) (mfromHour : Int32) (mtoHour : Int32) (ns : Nat) (mfrom : Int32) (mto : Int32) (msort : Int32) (misFault : Int32) (mdeep : Int32) (mcoded : Int32) (mlines : Int32) (nl : Nat) (nc : Nat) (nF : Nat) (np : Nat) (ntr : Nat) (nb : Nat) (mbestCost : Int32) (nso : Nat) (nsi : Nat) (nit : Nat) (nsh : Nat) (nsf : Nat) (nss : Nat) (nrc : Nat) (mtraced : Int32) (mdealer : Int32) (mnumber : Int32) (mwhose : Int32) (msize : Int32) (misParted : Int32) (fnso : Nat → Int32) (fnsi : Nat → Int32) (hjt : jt < 4) : K_m_notThereX l G h0 jt so9 fi nw nk mhasKept nt mtaped nr mrowMany mroundOf mroundFrom mouts nm mfromHour mtoHour ns mfrom mto msort misFault mdeep mcoded mlines nl nc nF np ntr nb mbestCost nso nsi nit nsh nsf nss nrc mtraced mdealer mnumber mwhose msize misParted fnso fnsi := by
  refine MP.start (by decide +kernel) (Nat.le_of_ble_eq_true rfl) ?_
  intro p e s m below meth c ls hC hK hP hD hl
  refine absQ (fun Q0 hQ0 => ?_)
  have hl : lv_has ls 5 [(0, .ref h0), (1, .int (nI jt)), (2, .int so9), (3, .int fi), (4, .int fi)] := hl
  refine Kan8 hC (fun hx hb hr hml hB hown hlocks hnm => ?_)
  refine lv_aload_n hx hb gX12_notThere_0.1 rfl (lv_at0 hl) ?_
  refine gf_X12_63 hC rfl hK hP 0 rfl rfl gX12_notThere_0.2.1 ?_
  refine lv_iload_n hx hb gX12_notThere_0.2.2.1 rfl (lv_at1 hl) ?_
  refine aldN hC hK hP 1 rfl (k := jt) (by omega) (Nat.le_of_ble_eq_true rfl) (v := fnso jt) rfl gX12_notThere_0.2.2.2.1 ?_
  refine lv_if_ge (tgt := 14) hx hb gX12_notThere_0.2.2.2.2.1 (by decide) (fun c_6_6403 => ?_) (fun c_6_6403 => ?_)
  · refine lv_aload_n hx hb gX12_notThere_0.2.2.2.2.2.2.2.1 rfl (lv_at0 hl) ?_
    refine gf_X12_63 hC rfl hK hP 0 rfl rfl gX12_notThere_0.2.2.2.2.2.2.2.2.1 ?_
    refine lv_iload_n hx hb gX12_notThere_0.2.2.2.2.2.2.2.2.2 rfl (lv_at1 hl) ?_
    refine aldN hC hK hP 1 rfl (k := jt) (by omega) (Nat.le_of_ble_eq_true rfl) (v := fnso jt) rfl gX12_notThere_1.1 ?_
    refine lv_iload_n hx hb gX12_notThere_1.2.1 rfl (lv_at2 hl) ?_
    refine lv_icmp_eq (tgt := 29) hx hb gX12_notThere_1.2.2.1 (by decide) (fun c_21_6404 => ?_) (fun c_21_6404 => ?_)
    · refine lv_iload_n hx hb gX12_notThere_1.2.2.2.2.2.1 rfl (lv_at3 hl) ?_
      refine lv_if_lt (tgt := 50) hx hb gX12_notThere_1.2.2.2.2.2.2.1 (by decide) (fun c_30_6405 => ?_) (fun c_30_6405 => ?_)
      · refine lv_bipush (v := (-12)) hx hb gX12_notThere_2.2.2.2.2.2.2.1 (by decide) ?_
        refine lv_goto (tgt := 56) hx hb gX12_notThere_2.2.2.2.2.2.2.2.1 (by decide) ?_
        refine toQ hQ0 ?_
        exact RP (v := (-12)) hC (Or.inr (Or.inr (Or.inl ⟨rfl, ⟨Int32.not_lt.mpr c_6_6403, c_21_6404, Or.inl c_30_6405⟩⟩))) rfl gX12_notThere_2.2.2.2.2.2.2.2.2.2
      · refine lv_iload hx hb gX12_notThere_1.2.2.2.2.2.2.2.1 (lv_at4 hl) ?_
        refine lv_aload_n hx hb gX12_notThere_1.2.2.2.2.2.2.2.2.1 rfl (lv_at0 hl) ?_
        refine gf_X12_66 hC rfl hK hP 0 rfl rfl gX12_notThere_1.2.2.2.2.2.2.2.2.2 ?_
        refine lv_iload_n hx hb gX12_notThere_2.1 rfl (lv_at1 hl) ?_
        refine aldN hC hK hP 2 rfl (k := jt) (by omega) (Nat.le_of_ble_eq_true rfl) (v := fnsi jt) rfl gX12_notThere_2.2.1 ?_
        refine lv_icmp_ge (tgt := 50) hx hb gX12_notThere_2.2.2.1 (by decide) (fun c_41_6406 => ?_) (fun c_41_6406 => ?_)
        · refine lv_bipush (v := (-12)) hx hb gX12_notThere_2.2.2.2.2.2.2.1 (by decide) ?_
          refine lv_goto (tgt := 56) hx hb gX12_notThere_2.2.2.2.2.2.2.2.1 (by decide) ?_
          refine toQ hQ0 ?_
          exact RP (v := (-12)) hC (Or.inr (Or.inr (Or.inl ⟨rfl, ⟨Int32.not_lt.mpr c_6_6403, c_21_6404, Or.inr c_41_6406⟩⟩))) rfl gX12_notThere_2.2.2.2.2.2.2.2.2.2
        · refine lv_iload hx hb gX12_notThere_2.2.2.2.1 (lv_at4 hl) ?_
          refine lv_iload_n hx hb gX12_notThere_2.2.2.2.2.1 rfl (lv_at3 hl) ?_
          refine lv_icmp_ge (tgt := 55) hx hb gX12_notThere_2.2.2.2.2.2.1 (by decide) (fun _ => ?_) (fun c9 => absurd (Int32.le_refl _) c9)
          refine lv_iconst (v := 0) hx hb gX12_notThere_2.2.2.2.2.2.2.2.2.1 (by decide) ?_
          refine toQ hQ0 ?_
          exact RP (v := 0) hC (Or.inr (Or.inr (Or.inr ⟨rfl, ⟨Int32.not_lt.mpr c_6_6403, c_21_6404, c_30_6405, c_41_6406⟩⟩))) rfl gX12_notThere_2.2.2.2.2.2.2.2.2.2
    · refine lv_bipush (v := (-13)) hx hb gX12_notThere_1.2.2.2.1 (by decide) ?_
      refine lv_goto (tgt := 56) hx hb gX12_notThere_1.2.2.2.2.1 (by decide) ?_
      refine toQ hQ0 ?_
      exact RP (v := (-13)) hC (Or.inr (Or.inl ⟨rfl, ⟨Int32.not_lt.mpr c_6_6403, c_21_6404⟩⟩)) rfl gX12_notThere_2.2.2.2.2.2.2.2.2.2
  · refine lv_bipush (v := (-11)) hx hb gX12_notThere_0.2.2.2.2.2.1 (by decide) ?_
    refine lv_goto (tgt := 56) hx hb gX12_notThere_0.2.2.2.2.2.2.1 (by decide) ?_
    refine toQ hQ0 ?_
    exact RP (v := (-11)) hC (Or.inl ⟨rfl, Int32.not_le.mp c_6_6403⟩) rfl gX12_notThere_2.2.2.2.2.2.2.2.2.2
def K_r_item (l : Launch) (G : GG) (h0 : Nat) (x1 : Int32) (x2 : Int32) (x3 : Int32) (nw : Nat) (nk : Nat) (mhasKept : Int32) (nt : Nat) (mtaped : Int32) (nr : Nat) (mrowMany : Int32) (mroundOf : Int32) (mroundFrom : Int32) (mouts : Int32) (nm : Nat) (mfromHour : Int32) (mtoHour : Int32) (ns : Nat) (mfrom : Int32) (mto : Int32) (msort : Int32) (misFault : Int32) (mdeep : Int32) (mcoded : Int32) (mlines : Int32) (nl : Nat) (nc : Nat) (nF : Nat) (np : Nat) (ntr : Nat) (nb : Nat) (mbestCost : Int32) (nso : Nat) (nsi : Nat) (nit : Nat) (nsh : Nat) (nsf : Nat) (nss : Nat) (nrc : Nat) (mtraced : Int32) (mdealer : Int32) (mnumber : Int32) (mwhose : Int32) (msize : Int32) (misParted : Int32) (fnso : Nat → Int32) (fnsi : Nat → Int32) (fnit : Nat → Int32) : Prop := MP l G yX12_item cX12_item 5 (some .int) 3 [.ref h0, .int x1, .int x2, .int x3] [(h0, oX12 nw nk mhasKept nt mtaped nr mrowMany mroundOf mroundFrom mouts nm mfromHour mtoHour ns mfrom mto msort misFault mdeep mcoded mlines nl nc nF np ntr nb mbestCost nso nsi nit nsh nsf nss nrc mtraced mdealer mnumber mwhose msize misParted), (nso, iA G 4 fnso), (nsi, iA G 4 fnsi), (nit, iA G 160 fnit)] (fun r : Int32 => r = ifc (Wi x1 0 3) (ifc (Wi x2 0 4) (ifc (fnso x1.toNatClampNeg < 0) (-11) (ifc (fnso x1.toNatClampNeg = x2) (ifc (x3 < 0 ∨ fnsi x1.toNatClampNeg ≤ x3) (-12) (fnit (40 * x1.toNatClampNeg + x3.toNatClampNeg))) (-13))) (-1)) (-1))
set_option maxHeartbeats 4000000 in
set_option maxRecDepth 100000 in
theorem r_item (l : Launch) (G : GG) (h0 : Nat) (x1 : Int32) (x2 : Int32) (x3 : Int32) (nw : Nat) (nk : Nat) (mhasKept : Int32) (nt : Nat) (mtaped : Int32) (nr : Nat) (mrowMany : Int32) (mroundOf : Int32) (mroundFrom : Int32) (mouts : Int32) (nm : Nat) (mfromHour : Int32) (mtoHour : Int32) (ns : Nat) (mfrom : Int32) (mto : Int32) (msort : Int32) (misFault : Int32) (mdeep : Int32) (mcoded : Int32) (mlines : Int32) (nl : Nat) (nc : Nat) (nF : Nat) (np : Nat) (ntr : Nat) (nb : Nat) (mbestCost : Int32) (nso : Nat) (nsi : Nat) (nit : Nat) (nsh : Nat) (nsf : Nat) (nss : Nat) (nrc : Nat) (mtraced : Int32) (mdealer : Int32) (mnumber : Int32) (mwhose : Int32) (msize : Int32) (misParted : Int32) (fnso : Nat → Int32) (fnsi : Nat → Int32) (fnit : Nat → Int32) (hZ : SZ fnsi) : K_r_item l G h0 x1 x2 x3 nw nk mhasKept nt mtaped nr mrowMany mroundOf mroundFrom mouts nm mfromHour mtoHour ns mfrom mto msort misFault mdeep mcoded mlines nl nc nF np ntr nb mbestCost nso nsi nit nsh nsf nss nrc mtraced mdealer mnumber mwhose msize misParted fnso fnsi fnit := by
  refine MP.start (by decide +kernel) (Nat.le_of_ble_eq_true rfl) ?_
  intro p e s m below meth c ls hC hK hP hD hl
  refine absQ (fun Q0 hQ0 => ?_)
  have hl : lv_has ls 5 [(0, .ref h0), (1, .int x1), (2, .int x2), (3, .int x3)] := hl
  refine Kan8 hC (fun hx hb hr hml hB hown hlocks hnm => ?_)
  refine lv_iload_n hx hb gX12_item_0.1 rfl (lv_at1 hl) ?_
  refine pS hC hK hl (m_isFour l G x1) si_X12_336 rfl rfl (Nat.le_of_ble_eq_true rfl) rm_3_2_1 ⟨by first | exact Nat.le_of_ble_eq_true rfl | exact Nat.zero_le _, by first | exact Nat.le_of_ble_eq_true rfl | exact Nat.zero_le _⟩ gX12_item_0.2.1 (Kors (Keqa fun a6408 => ?_) (Keqa fun a6408 => ?_))
  · refine lv_if_eq (tgt := 16) hx hb gX12_item_0.2.2.1 (by decide) (fun c9 => absurd c9 (by decide)) (fun _ => ?_)
    refine lv_iload_n hx hb gX12_item_0.2.2.2.1 rfl (lv_at2 hl) ?_
    refine lv_iconst (v := 0) hx hb gX12_item_0.2.2.2.2.1 (by decide) ?_
    refine lv_iconst (v := 4) hx hb gX12_item_0.2.2.2.2.2.1 (by decide) ?_
    refine pS hC hK hl (m_within l G x2 0 4) si_X12_84 rfl rfl (Nat.le_of_ble_eq_true rfl) rm_3_1_3 ⟨by first | exact Nat.le_of_ble_eq_true rfl | exact Nat.zero_le _, by first | exact Nat.le_of_ble_eq_true rfl | exact Nat.zero_le _⟩ gX12_item_0.2.2.2.2.2.2.1 (Kors (Keqa fun a6410 => ?_) (Keqa fun a6410 => ?_))
    · refine lv_if_ne (tgt := 18) hx hb gX12_item_0.2.2.2.2.2.2.2.1 (by decide) (fun _ => ?_) (fun c9 => absurd c9 (by decide))
      obtain ⟨jt, hjt, rfl⟩ := Wi3 a6408
      refine lv_aload_n hx hb gX12_item_1.1 rfl (lv_at0 hl) ?_
      refine lv_iload_n hx hb gX12_item_1.2.1 rfl (lv_at1 hl) ?_
      refine lv_iload_n hx hb gX12_item_1.2.2.1 rfl (lv_at2 hl) ?_
      refine lv_iload_n hx hb gX12_item_1.2.2.2.1 rfl (lv_at3 hl) ?_
      refine lv_iload_n hx hb gX12_item_1.2.2.2.2.1 rfl (lv_at3 hl) ?_
      refine pV hC hK hl hP hD (m_notThereX l G h0 jt x2 x3 nw nk mhasKept nt mtaped nr mrowMany mroundOf mroundFrom mouts nm mfromHour mtoHour ns mfrom mto msort misFault mdeep mcoded mlines nl nc nF np ntr nb mbestCost nso nsi nit nsh nsf nss nrc mtraced mdealer mnumber mwhose msize misParted fnso fnsi (by omega)) si_X12_339 [0, 1, 2] sm_0_1_2 fm_0_1_2 nd_0_1_2 rfl rfl rfl rfl rfl (Nat.le_of_ble_eq_true rfl) rm_3_2_5 ⟨by first | exact Nat.le_of_ble_eq_true rfl | exact Nat.zero_le _, by first | exact Nat.le_of_ble_eq_true rfl | exact Nat.zero_le _⟩ gX12_item_1.2.2.2.2.2.1 (Kors (Keqa fun a6412 => ?_) (Kors (Keqa fun a6412 => ?_) (Kors (Keqa fun a6412 => ?_) (Keqa fun a6412 => ?_))))
      · refine lv_istore (lv' := [(4, .int (-11)), (0, .ref h0), (1, .int (nI jt)), (2, .int x2), (3, .int x3)]) hx hb gX12_item_1.2.2.2.2.2.2.1 hl (by decide) rfl (fun ls hl => ?_)
        refine lv_iload hx hb gX12_item_1.2.2.2.2.2.2.2.1 (lv_at0 hl) ?_
        refine lv_if_eq (tgt := 38) hx hb gX12_item_1.2.2.2.2.2.2.2.2.1 (by decide) (fun c9 => absurd c9 (by decide)) (fun _ => ?_)
        refine lv_iload hx hb gX12_item_1.2.2.2.2.2.2.2.2.2 (lv_at0 hl) ?_
        refine lv_goto (tgt := 49) hx hb gX12_item_2.1 (by decide) ?_
        refine toQ hQ0 ?_
        exact RP (v := (-11)) hC ((by first | rfl | (simp only [nI_clamp (n := jt) (by omega), ifc_t hZ, ifc_t a6408, ifc_t a6410, ifc_t a6412]; done) | (simp only [nI_clamp (n := jt) (by omega), ifc_t hZ, ifc_t a6408, ifc_t a6410, ifc_t a6412]; rfl))) rfl gX12_item_2.2.2.2.2.2.2.2.2.2
      · refine lv_istore (lv' := [(4, .int (-13)), (0, .ref h0), (1, .int (nI jt)), (2, .int x2), (3, .int x3)]) hx hb gX12_item_1.2.2.2.2.2.2.1 hl (by decide) rfl (fun ls hl => ?_)
        refine lv_iload hx hb gX12_item_1.2.2.2.2.2.2.2.1 (lv_at0 hl) ?_
        refine lv_if_eq (tgt := 38) hx hb gX12_item_1.2.2.2.2.2.2.2.2.1 (by decide) (fun c9 => absurd c9 (by decide)) (fun _ => ?_)
        refine lv_iload hx hb gX12_item_1.2.2.2.2.2.2.2.2.2 (lv_at0 hl) ?_
        refine lv_goto (tgt := 49) hx hb gX12_item_2.1 (by decide) ?_
        refine toQ hQ0 ?_
        exact RP (v := (-13)) hC ((by first | rfl | (simp only [nI_clamp (n := jt) (by omega), ifc_t hZ, ifc_t a6408, ifc_t a6410, ifc_t a6412, ifc_f a6412.1, ifc_f a6412.2]; done) | (simp only [nI_clamp (n := jt) (by omega), ifc_t hZ, ifc_t a6408, ifc_t a6410, ifc_t a6412, ifc_f a6412.1, ifc_f a6412.2]; rfl))) rfl gX12_item_2.2.2.2.2.2.2.2.2.2
      · refine lv_istore (lv' := [(4, .int (-12)), (0, .ref h0), (1, .int (nI jt)), (2, .int x2), (3, .int x3)]) hx hb gX12_item_1.2.2.2.2.2.2.1 hl (by decide) rfl (fun ls hl => ?_)
        refine lv_iload hx hb gX12_item_1.2.2.2.2.2.2.2.1 (lv_at0 hl) ?_
        refine lv_if_eq (tgt := 38) hx hb gX12_item_1.2.2.2.2.2.2.2.2.1 (by decide) (fun c9 => absurd c9 (by decide)) (fun _ => ?_)
        refine lv_iload hx hb gX12_item_1.2.2.2.2.2.2.2.2.2 (lv_at0 hl) ?_
        refine lv_goto (tgt := 49) hx hb gX12_item_2.1 (by decide) ?_
        refine toQ hQ0 ?_
        exact RP (v := (-12)) hC ((by first | rfl | (simp only [nI_clamp (n := jt) (by omega), ifc_t hZ, ifc_t a6408, ifc_t a6410, ifc_t a6412, ifc_f a6412.1, ifc_t a6412.2.1, ifc_t a6412.2.2]; done) | (simp only [nI_clamp (n := jt) (by omega), ifc_t hZ, ifc_t a6408, ifc_t a6410, ifc_t a6412, ifc_f a6412.1, ifc_t a6412.2.1, ifc_t a6412.2.2]; rfl))) rfl gX12_item_2.2.2.2.2.2.2.2.2.2
      · refine lv_istore (lv' := [(4, .int 0), (0, .ref h0), (1, .int (nI jt)), (2, .int x2), (3, .int x3)]) hx hb gX12_item_1.2.2.2.2.2.2.1 hl (by decide) rfl (fun ls hl => ?_)
        refine lv_iload hx hb gX12_item_1.2.2.2.2.2.2.2.1 (lv_at0 hl) ?_
        refine lv_if_eq (tgt := 38) hx hb gX12_item_1.2.2.2.2.2.2.2.2.1 (by decide) (fun _ => ?_) (fun c9 => absurd (by decide) c9)
        obtain ⟨ji, hji, rfl⟩ := NT.at hZ (i := jt) (by omega) ⟨a6412.2.2.1, a6412.2.2.2⟩
        refine lv_aload_n hx hb gX12_item_2.2.1 rfl (lv_at1 hl) ?_
        refine gf_X12_69 hC rfl hK hP 0 rfl rfl gX12_item_2.2.2.1 ?_
        refine lv_bipush (v := 40) hx hb gX12_item_2.2.2.2.1 (by decide) ?_
        refine lv_iload_n hx hb gX12_item_2.2.2.2.2.1 rfl (lv_at2 hl) ?_
        refine lv_imul hx hb gX12_item_2.2.2.2.2.2.1 ?_
        refine eqi (x1 := nI (40 * jt)) (nI_mul 40 jt) ?_
        refine lv_iload_n hx hb gX12_item_2.2.2.2.2.2.2.1 rfl (lv_at4 hl) ?_
        refine lv_iadd hx hb gX12_item_2.2.2.2.2.2.2.2.1 ?_
        refine eqi (x1 := nI (40 * jt + ji)) (nI_add (40 * jt) ji) ?_
        refine aldN hC hK hP 3 rfl (k := (40 * jt + ji)) (by omega) (Nat.le_of_ble_eq_true rfl) (v := fnit (40 * jt + ji)) rfl gX12_item_2.2.2.2.2.2.2.2.2.1 ?_
        refine toQ hQ0 ?_
        exact RP (v := fnit (40 * jt + ji)) hC ((by first | rfl | (simp only [nI_clamp (n := jt) (by omega), nI_clamp (n := ji) (by omega), ifc_t hZ, ifc_t a6408, ifc_t a6410, ifc_t a6412, ifc_f a6412.1, ifc_t a6412.2.1, ifc_f (not_or.mpr ⟨a6412.2.2.1, a6412.2.2.2⟩)]; done) | (simp only [nI_clamp (n := jt) (by omega), nI_clamp (n := ji) (by omega), ifc_t hZ, ifc_t a6408, ifc_t a6410, ifc_t a6412, ifc_f a6412.1, ifc_t a6412.2.1, ifc_f (not_or.mpr ⟨a6412.2.2.1, a6412.2.2.2⟩)]; rfl))) rfl gX12_item_2.2.2.2.2.2.2.2.2.2
    · refine lv_if_ne (tgt := 18) hx hb gX12_item_0.2.2.2.2.2.2.2.1 (by decide) (fun c9 => absurd (by decide) c9) (fun _ => ?_)
      refine lv_iconst (v := (-1)) hx hb gX12_item_0.2.2.2.2.2.2.2.2.1 (by decide) ?_
      refine toQ hQ0 ?_
      exact RP (v := (-1)) hC ((by first | rfl | (simp only [ifc_t hZ, ifc_t a6408, ifc_f a6410]; done) | (simp only [ifc_t hZ, ifc_t a6408, ifc_f a6410]; rfl))) rfl gX12_item_0.2.2.2.2.2.2.2.2.2
  · refine lv_if_eq (tgt := 16) hx hb gX12_item_0.2.2.1 (by decide) (fun _ => ?_) (fun c9 => absurd (by decide) c9)
    refine lv_iconst (v := (-1)) hx hb gX12_item_0.2.2.2.2.2.2.2.2.1 (by decide) ?_
    refine toQ hQ0 ?_
    exact RP (v := (-1)) hC ((by first | rfl | (simp only [ifc_t hZ, ifc_f a6408]; done) | (simp only [ifc_t hZ, ifc_f a6408]; rfl))) rfl gX12_item_0.2.2.2.2.2.2.2.2.2
def K_w_stamps (l : Launch) (G : GG) (kq : Nat) (k6 : Nat) (h0 : Nat) (x1 : Int32) (x2 : Int32) (x3 : Int32) (x4 : Int32) (nw : Nat) (nk : Nat) (mhasKept : Int32) (nt : Nat) (mtaped : Int32) (nr : Nat) (mrowMany : Int32) (mroundOf : Int32) (mroundFrom : Int32) (mouts : Int32) (nm : Nat) (mfromHour : Int32) (mtoHour : Int32) (ns : Nat) (mfrom : Int32) (mto : Int32) (msort : Int32) (misFault : Int32) (mdeep : Int32) (mcoded : Int32) (mlines : Int32) (nl : Nat) (nc : Nat) (nF : Nat) (np : Nat) (ntr : Nat) (nb : Nat) (mbestCost : Int32) (nso : Nat) (nsi : Nat) (nit : Nat) (nsh : Nat) (nsf : Nat) (nss : Nat) (nrc : Nat) (mtraced : Int32) (mdealer : Int32) (mnumber : Int32) (mwhose : Int32) (msize : Int32) (misParted : Int32) (fnw : Nat → Int32) (fnso : Nat → Int32) (fnsi : Nat → Int32) (fnit : Nat → Int32) : Prop := MI l G yX12_stamps cX12_stamps 9 (some .int) 4 0 0 [.ref h0, .int x1, .int x2, .int x3, .int x4] [(h0, oX12 nw nk mhasKept nt mtaped nr mrowMany mroundOf mroundFrom mouts nm mfromHour mtoHour ns mfrom mto msort misFault mdeep mcoded mlines nl nc nF np ntr nb mbestCost nso nsi nit nsh nsf nss nrc mtraced mdealer mnumber mwhose msize misParted), (nw, iA G 1662 fnw), (nso, iA G 4 fnso), (nsi, iA G 4 fnsi), (nit, iA G 160 fnit)] (fun (r : Int32) (u : (Nat → Int32)) => (r = STA x1 x2 x3 x4 kq k6 fnso fnsi fnit) ∧ (NI u ∧ VI u ∧ SCX u (fnw 0) (fnw 1) (fnw 2) (fnw 3) (fnw 4) (fnw 5) (STK (STA x1 x2 x3 x4 kq k6 fnso fnsi fnit) k6) (fnw 8) (fnw 9) (fnw 10) (fnw 11) ∧ FRO u fnw 104 176 ∧ ∀ i : Nat, i < 72 → u (104 + i) = ifc (STA x1 x2 x3 x4 kq k6 fnso fnsi fnit < 0) (fnw (104 + i)) (APS (shf fnw 104) k6 x1 fnit (x2.toNatClampNeg * 40) x3.toNatClampNeg x4.toNatClampNeg i))) (fun u : (Nat → Int32) => [(h0, oX12 nw nk mhasKept nt mtaped nr mrowMany mroundOf mroundFrom mouts nm mfromHour mtoHour ns mfrom mto msort misFault mdeep mcoded mlines nl nc nF np ntr nb mbestCost nso nsi nit nsh nsf nss nrc mtraced mdealer mnumber mwhose msize misParted), (nw, iA G 1662 u), (nso, iA G 4 fnso), (nsi, iA G 4 fnsi), (nit, iA G 160 fnit)])
set_option maxHeartbeats 4000000 in
set_option maxRecDepth 100000 in
theorem w_stamps (l : Launch) (G : GG) (kq : Nat) (k6 : Nat) (h0 : Nat) (x1 : Int32) (x2 : Int32) (x3 : Int32) (x4 : Int32) (nw : Nat) (nk : Nat) (mhasKept : Int32) (nt : Nat) (mtaped : Int32) (nr : Nat) (mrowMany : Int32) (mroundOf : Int32) (mroundFrom : Int32) (mouts : Int32) (nm : Nat) (mfromHour : Int32) (mtoHour : Int32) (ns : Nat) (mfrom : Int32) (mto : Int32) (msort : Int32) (misFault : Int32) (mdeep : Int32) (mcoded : Int32) (mlines : Int32) (nl : Nat) (nc : Nat) (nF : Nat) (np : Nat) (ntr : Nat) (nb : Nat) (mbestCost : Int32) (nso : Nat) (nsi : Nat) (nit : Nat) (nsh : Nat) (nsf : Nat) (nss : Nat) (nrc : Nat) (mtraced : Int32) (mdealer : Int32) (mnumber : Int32) (mwhose : Int32) (msize : Int32) (misParted : Int32) (fnw : Nat → Int32) (fnso : Nat → Int32) (fnsi : Nat → Int32) (fnit : Nat → Int32) (ekq : fnw 5 = nI kq) (hkq : kq ≤ 12) (ek6 : fnw 6 = nI k6) (hk6 : k6 ≤ 24) (hN : NI fnw) (hV : VI fnw) (hZ : SZ fnsi) : K_w_stamps l G kq k6 h0 x1 x2 x3 x4 nw nk mhasKept nt mtaped nr mrowMany mroundOf mroundFrom mouts nm mfromHour mtoHour ns mfrom mto msort misFault mdeep mcoded mlines nl nc nF np ntr nb mbestCost nso nsi nit nsh nsf nss nrc mtraced mdealer mnumber mwhose msize misParted fnw fnso fnsi fnit := by
  refine MI.start (by decide +kernel) (Nat.le_of_ble_eq_true rfl) ?_
  intro p e s m below meth c A ls hC hK hP hD hS hA hl
  refine absQ (fun Q0 hQ0 => ?_)
  have hl : lv_has ls 9 [(0, .ref h0), (1, .int x1), (2, .int x2), (3, .int x3), (4, .int x4)] := hl
  refine Kan8 hC (fun hx hb hr hml hB hown hlocks hnm => ?_)
  refine lv_aload_n hx hb gX12_stamps_0.1 rfl (lv_at0 hl) ?_
  refine lv_iload_n hx hb gX12_stamps_0.2.1 rfl (lv_at1 hl) ?_
  refine lv_iconst (v := 5) hx hb gX12_stamps_0.2.2.1 (by decide) ?_
  refine pV hC hK hl hP hD (m_is l G kq h0 x1 5 nw nk mhasKept nt mtaped nr mrowMany mroundOf mroundFrom mouts nm mfromHour mtoHour ns mfrom mto msort misFault mdeep mcoded mlines nl nc nF np ntr nb mbestCost nso nsi nit nsh nsf nss nrc mtraced mdealer mnumber mwhose msize misParted fnw (by omega) (ekq) (by omega)) si_X12_120 [0, 1] sm_0_1 fm_0_1 nd_0_1 rfl rfl rfl rfl rfl (Nat.le_of_ble_eq_true rfl) rm_4_2_3 ⟨by first | exact Nat.le_of_ble_eq_true rfl | exact Nat.zero_le _, by first | exact Nat.le_of_ble_eq_true rfl | exact Nat.zero_le _⟩ gX12_stamps_0.2.2.2.1 (Kors (Keqa fun a6414 => ?_) (Keqa fun a6414 => ?_))
  · refine lv_if_eq (tgt := 27) hx hb gX12_stamps_0.2.2.2.2.1 (by decide) (fun c9 => absurd c9 (by decide)) (fun _ => ?_)
    refine lv_iload_n hx hb gX12_stamps_0.2.2.2.2.2.1 rfl (lv_at2 hl) ?_
    refine pS hC hK hl (m_isFour l G x2) si_X12_336 rfl rfl (Nat.le_of_ble_eq_true rfl) rm_4_2_1 ⟨by first | exact Nat.le_of_ble_eq_true rfl | exact Nat.zero_le _, by first | exact Nat.le_of_ble_eq_true rfl | exact Nat.zero_le _⟩ gX12_stamps_0.2.2.2.2.2.2.1 (Kors (Keqa fun a6416 => ?_) (Keqa fun a6416 => ?_))
    · refine lv_if_eq (tgt := 27) hx hb gX12_stamps_0.2.2.2.2.2.2.2.1 (by decide) (fun c9 => absurd c9 (by decide)) (fun _ => ?_)
      refine lv_iload hx hb gX12_stamps_0.2.2.2.2.2.2.2.2.1 (lv_at4 hl) ?_
      refine lv_iconst (v := 0) hx hb gX12_stamps_0.2.2.2.2.2.2.2.2.2 (by decide) ?_
      refine lv_bipush (v := 9) hx hb gX12_stamps_1.1 (by decide) ?_
      refine pS hC hK hl (m_within l G x4 0 9) si_X12_84 rfl rfl (Nat.le_of_ble_eq_true rfl) rm_4_1_3 ⟨by first | exact Nat.le_of_ble_eq_true rfl | exact Nat.zero_le _, by first | exact Nat.le_of_ble_eq_true rfl | exact Nat.zero_le _⟩ gX12_stamps_1.2.1 (Kors (Keqa fun a6418 => ?_) (Keqa fun a6418 => ?_))
      · refine lv_if_ne (tgt := 29) hx hb gX12_stamps_1.2.2.1 (by decide) (fun _ => ?_) (fun c9 => absurd c9 (by decide))
        obtain ⟨jp, hjp, rfl⟩ := Hs_nat (by omega) a6414
        obtain ⟨jt, hjt, rfl⟩ := Wi3 a6416
        obtain ⟨jn, hjn, rfl⟩ := Wi_nat (N := 9) (by decide) a6418
        refine lv_aload_n hx hb gX12_stamps_1.2.2.2.2.2.1 rfl (lv_at0 hl) ?_
        refine gf_X12_63 hC rfl hK hP 0 rfl rfl gX12_stamps_1.2.2.2.2.2.2.1 ?_
        refine lv_iload_n hx hb gX12_stamps_1.2.2.2.2.2.2.2.1 rfl (lv_at2 hl) ?_
        refine aldN hC hK hP 2 rfl (k := jt) (by omega) (Nat.le_of_ble_eq_true rfl) (v := fnso jt) rfl gX12_stamps_1.2.2.2.2.2.2.2.2.1 ?_
        refine lv_if_ge (tgt := 43) hx hb gX12_stamps_1.2.2.2.2.2.2.2.2.2 (by decide) (fun c_35_6419 => ?_) (fun c_35_6419 => ?_)
        · refine lv_aload_n hx hb gX12_stamps_2.2.2.1 rfl (lv_at0 hl) ?_
          refine gf_X12_63 hC rfl hK hP 0 rfl rfl gX12_stamps_2.2.2.2.1 ?_
          refine lv_iload_n hx hb gX12_stamps_2.2.2.2.2.1 rfl (lv_at2 hl) ?_
          refine aldN hC hK hP 2 rfl (k := jt) (by omega) (Nat.le_of_ble_eq_true rfl) (v := fnso jt) rfl gX12_stamps_2.2.2.2.2.2.1 ?_
          refine lv_iconst (v := 1) hx hb gX12_stamps_2.2.2.2.2.2.2.1 (by decide) ?_
          refine lv_icmp_eq (tgt := 58) hx hb gX12_stamps_2.2.2.2.2.2.2.2.1 (by decide) (fun c_50_6420 => ?_) (fun c_50_6420 => ?_)
          · refine lv_iload_n hx hb gX12_stamps_3.1 rfl (lv_at3 hl) ?_
            refine lv_if_lt (tgt := 83) hx hb gX12_stamps_3.2.1 (by decide) (fun c_59_6421 => ?_) (fun c_59_6421 => ?_)
            · refine lv_bipush (v := (-12)) hx hb gX12_stamps_4.2.2.2.2.2.2.1 (by decide) ?_
              refine lv_goto (tgt := 89) hx hb gX12_stamps_4.2.2.2.2.2.2.2.1 (by decide) ?_
              refine lv_istore (lv' := [(5, .int (-12)), (0, .ref h0), (1, .int (nI jp)), (2, .int (nI jt)), (3, .int x3), (4, .int (nI jn))]) hx hb gX12_stamps_4.2.2.2.2.2.2.2.2.2 hl (by decide) rfl (fun ls hl => ?_)
              refine lv_iload hx hb gX12_stamps_5.1 (lv_at0 hl) ?_
              refine lv_if_eq (tgt := 99) hx hb gX12_stamps_5.2.1 (by decide) (fun c9 => absurd c9 (by decide)) (fun _ => ?_)
              refine lv_iload hx hb gX12_stamps_5.2.2.1 (lv_at0 hl) ?_
              have hA9 : STA (nI jp) (nI jt) x3 (nI jn) kq k6 fnso fnsi fnit = (-12) := by unfold STA; first | (simp only [nI_clamp (n := jt) (by omega), nI_clamp (n := jn) (by omega), ifc_t ekq, ifc_t hkq, ifc_t ek6, ifc_t hk6, ifc_t hN, ifc_t hV, ifc_t hZ, ifc_t a6414, ifc_t a6416, ifc_t a6418, ifc_t c_35_6419, ifc_t c_50_6420, ifc_t c_59_6421, ifc_f (q := (fnso jt) < 0) (Int32.not_lt.mpr c_35_6419), ifc_t (q := OUTS x3 (fnsi jt) (nI jn)) (Or.inl c_59_6421)]; done) | (simp only [nI_clamp (n := jt) (by omega), nI_clamp (n := jn) (by omega), ifc_t ekq, ifc_t hkq, ifc_t ek6, ifc_t hk6, ifc_t hN, ifc_t hV, ifc_t hZ, ifc_t a6414, ifc_t a6416, ifc_t a6418, ifc_t c_35_6419, ifc_t c_50_6420, ifc_t c_59_6421, ifc_f (q := (fnso jt) < 0) (Int32.not_lt.mpr c_35_6419), ifc_t (q := OUTS x3 (fnsi jt) (nI jn)) (Or.inl c_59_6421)]; rfl)
              have hK9 : STK (STA (nI jp) (nI jt) x3 (nI jn) kq k6 fnso fnsi fnit) k6 = nI k6 := by unfold STK; rw [hA9]; exact ifc_t (by decide)
              refine toQ hQ0 ?_
              exact RI (v := (-12)) hC hP hD hS [0, 1, 2, 3, 4] fnw rfl rfl (by decide) (⟨hA9.symm, ⟨hN, hV, (by rw [hK9, ← ek6]; exact SCX.rf), FRO.rf, fun i hi9 => (by rw [hA9]; exact (ifc_t (by decide)).symm)⟩⟩) rfl gX12_stamps_5.2.2.2.1
            · obtain ⟨ji, hji, rfl⟩ := nI_of c_59_6421
              refine lv_iload_n hx hb gX12_stamps_3.2.2.1 rfl (lv_at3 hl) ?_
              refine lv_i2l hx hb gX12_stamps_3.2.2.2.1 rfl ?_
              refine lv_ldc2 hx hb hown (hB _ m_1376) gX12_stamps_3.2.2.2.2.1 ?_
              refine lv_iload hx hb gX12_stamps_3.2.2.2.2.2.1 (lv_at4 hl) ?_
              refine lv_i2l hx hb gX12_stamps_3.2.2.2.2.2.2.1 rfl ?_
              refine lv_lmul hx hb gX12_stamps_3.2.2.2.2.2.2.2.1 ?_
              refine lv_ladd hx hb gX12_stamps_3.2.2.2.2.2.2.2.2.1 ?_
              refine lv_aload_n hx hb gX12_stamps_3.2.2.2.2.2.2.2.2.2 rfl (lv_at0 hl) ?_
              refine gf_X12_66 hC rfl hK hP 0 rfl rfl gX12_stamps_4.1 ?_
              refine lv_iload_n hx hb gX12_stamps_4.2.1 rfl (lv_at2 hl) ?_
              refine aldN hC hK hP 3 rfl (k := jt) (by omega) (Nat.le_of_ble_eq_true rfl) (v := fnsi jt) rfl gX12_stamps_4.2.2.1 ?_
              obtain ⟨jz, hjz, ejz⟩ := hZ jt (by omega)
              refine eqi (x1 := nI jz) ejz ?_
              refine lv_i2l hx hb gX12_stamps_4.2.2.2.1 rfl ?_
              refine W.lcmp hx hb gX12_stamps_4.2.2.2.2.1 ?_
              refine lv_if_le (tgt := 88) hx hb gX12_stamps_4.2.2.2.2.2.1 (by decide) (fun c_80_6422 => ?_) (fun c_80_6422 => ?_)
              · have hin9 := st_in (ji := ji) (jn := jn) (k := jz) (by omega) (by omega) (by omega) c_80_6422
                refine lv_iconst (v := 0) hx hb gX12_stamps_4.2.2.2.2.2.2.2.2.1 (by decide) ?_
                refine lv_istore (lv' := [(5, .int 0), (0, .ref h0), (1, .int (nI jp)), (2, .int (nI jt)), (3, .int (nI ji)), (4, .int (nI jn))]) hx hb gX12_stamps_4.2.2.2.2.2.2.2.2.2 hl (by decide) rfl (fun ls hl => ?_)
                refine lv_iload hx hb gX12_stamps_5.1 (lv_at0 hl) ?_
                refine lv_if_eq (tgt := 99) hx hb gX12_stamps_5.2.1 (by decide) (fun _ => ?_) (fun c9 => absurd (by decide) c9)
                refine lv_bipush (v := 40) hx hb gX12_stamps_5.2.2.2.2.1 (by decide) ?_
                refine lv_iload_n hx hb gX12_stamps_5.2.2.2.2.2.1 rfl (lv_at3 hl) ?_
                refine lv_imul hx hb gX12_stamps_5.2.2.2.2.2.2.1 ?_
                refine eqi (x1 := nI (40 * jt)) (nI_mul 40 jt) ?_
                refine lv_iload_n hx hb gX12_stamps_5.2.2.2.2.2.2.2.1 rfl (lv_at4 hl) ?_
                refine lv_iadd hx hb gX12_stamps_5.2.2.2.2.2.2.2.2.1 ?_
                refine eqi (x1 := nI (40 * jt + ji)) (nI_add (40 * jt) ji) ?_
                refine lv_istore (lv' := [(6, .int (nI (40 * jt + ji))), (5, .int 0), (0, .ref h0), (1, .int (nI jp)), (2, .int (nI jt)), (3, .int (nI ji)), (4, .int (nI jn))]) hx hb gX12_stamps_5.2.2.2.2.2.2.2.2.2 hl (by decide) rfl (fun ls hl => ?_)
                refine lv_iconst (v := 1) hx hb gX12_stamps_6.1 (by decide) ?_
                refine lv_istore (lv' := [(7, .int 1), (6, .int (nI (40 * jt + ji))), (5, .int 0), (0, .ref h0), (1, .int (nI jp)), (2, .int (nI jt)), (3, .int (nI ji)), (4, .int (nI jn))]) hx hb gX12_stamps_6.2.1 hl (by decide) rfl (fun ls hl => ?_)
                refine lv_iconst (v := 0) hx hb gX12_stamps_6.2.2.1 (by decide) ?_
                refine lv_istore (lv' := [(8, .int 0), (7, .int 1), (6, .int (nI (40 * jt + ji))), (5, .int 0), (0, .ref h0), (1, .int (nI jp)), (2, .int (nI jt)), (3, .int (nI ji)), (4, .int (nI jn))]) hx hb gX12_stamps_6.2.2.2.1 hl (by decide) rfl (fun ls hl => ?_)
                have keyP : ∀ (nP kP : Nat) (gd : Int32) (H : Heap) (locs : List Loc) (ls : Array Slot), kP + nP = jn → (GX fnit (jt * 40) ji kP gd) → va_PD G A [(h0, oX12 nw nk mhasKept nt mtaped nr mrowMany mroundOf mroundFrom mouts nm mfromHour mtoHour ns mfrom mto msort misFault mdeep mcoded mlines nl nc nF np ntr nb mbestCost nso nsi nit nsh nsf nss nrc mtraced mdealer mnumber mwhose msize misParted), (nw, iA G 1662 fnw), (nso, iA G 4 fnso), (nsi, iA G 4 fnsi), (nit, iA G 160 fnit)] H → va_S A s.heap H locs → lv_has ls 9 [(8, .int (nI kP)), (7, .int gd), (6, .int (nI (40 * jt + ji))), (5, .int 0), (0, .ref h0), (1, .int (nI jp)), (2, .int (nI jt)), (3, .int (nI ji)), (4, .int (nI jn))] → W p l e (RM 4 0 0) s m ([.ref h0, .int (nI jp), .int (nI jt), .int (nI ji), .int (nI jn)] : List Value).toArray below meth c H locs 0 0 Q0 (F0 m 113 ls []) := by
                  intro nP
                  induction nP with
                  | zero =>
                    intro kP gd H locs ls hkP hgx hPD hS hl
                    refine Kan2 hPD (fun hP hD => ?_)
                    obtain rfl : jn = kP := by omega
                    have hl : lv_has ls 9 [(8, .int (nI jn)), (7, .int gd), (6, .int (nI (40 * jt + ji))), (5, .int 0), (0, .ref h0), (1, .int (nI jp)), (2, .int (nI jt)), (3, .int (nI ji)), (4, .int (nI jn))] := hl
                    refine lv_iload hx hb gX12_stamps_6.2.2.2.2.1 (lv_at0 hl) ?_
                    refine lv_iload hx hb gX12_stamps_6.2.2.2.2.2.1 (lv_at8 hl) ?_
                    refine lv_icmp_ge (tgt := 182) hx hb gX12_stamps_6.2.2.2.2.2.2.1 (by decide) (fun _ => ?_) (fun c9 => absurd (Int32.le_refl _) c9)
                    refine lv_iload hx hb gX12_stamps_10.2.1 (lv_at1 hl) ?_
                    refine lv_if_ne (tgt := 190) hx hb gX12_stamps_10.2.2.1 (by decide) (fun c_184_6423 => ?_) (fun c_184_6423 => ?_)
                    · have hals := GX.t hgx c_184_6423
                      refine lv_aload_n hx hb gX12_stamps_10.2.2.2.2.2.1 rfl (lv_at4 hl) ?_
                      refine gf_X12_9 hC rfl hK hP 0 rfl rfl gX12_stamps_10.2.2.2.2.2.2.1 ?_
                      refine lv_bipush (v := 6) hx hb gX12_stamps_10.2.2.2.2.2.2.2.1 (by decide) ?_
                      refine ald hC hK hP 1 rfl (vin (by decide +kernel)) (k := 6) (by decide +kernel) (v := nI k6) (ek6) gX12_stamps_10.2.2.2.2.2.2.2.2.1 ?_
                      refine lv_iload hx hb gX12_stamps_10.2.2.2.2.2.2.2.2.2 (lv_at8 hl) ?_
                      refine lv_iadd hx hb gX12_stamps_11.1 ?_
                      refine eqi (x1 := nI (k6 + jn)) (nI_add k6 jn) ?_
                      refine lv_bipush (v := 24) hx hb gX12_stamps_11.2.1 (by decide) ?_
                      refine lv_icmp_le (tgt := 208) hx hb gX12_stamps_11.2.2.1 (by decide) (fun c_202_6424 => ?_) (fun c_202_6424 => ?_)
                      · have hfit9 := (nI_leI (a := k6 + jn) (b := 24) (by omega) (by decide)).mp c_202_6424
                        refine lv_iconst (v := 0) hx hb gX12_stamps_11.2.2.2.2.2.1 (by decide) ?_
                        refine lv_istore (lv' := [(8, .int 0), (7, .int gd), (6, .int (nI (40 * jt + ji))), (5, .int 0), (0, .ref h0), (1, .int (nI jp)), (2, .int (nI jt)), (3, .int (nI ji)), (4, .int (nI jn))]) hx hb gX12_stamps_11.2.2.2.2.2.2.1 hl (by decide) rfl (fun ls hl => ?_)
                        have keyQ : ∀ (nQ kQ : Nat) (vW : Nat → Int32) (H : Heap) (locs : List Loc) (ls : Array Slot), kQ + nQ = jn → ((NI vW ∧ VI vW ∧ SCX vW (fnw 0) (fnw 1) (fnw 2) (fnw 3) (fnw 4) (fnw 5) (nI (k6 + kQ)) (fnw 8) (fnw 9) (fnw 10) (fnw 11) ∧ FRO vW fnw 104 176) ∧ vW 6 = nI (k6 + kQ) ∧ ∀ i : Nat, i < 72 → vW (104 + i) = APS (shf fnw 104) k6 (nI jp) fnit (jt * 40) ji kQ i) → va_PD G A [(h0, oX12 nw nk mhasKept nt mtaped nr mrowMany mroundOf mroundFrom mouts nm mfromHour mtoHour ns mfrom mto msort misFault mdeep mcoded mlines nl nc nF np ntr nb mbestCost nso nsi nit nsh nsf nss nrc mtraced mdealer mnumber mwhose msize misParted), (nw, iA G 1662 vW), (nso, iA G 4 fnso), (nsi, iA G 4 fnsi), (nit, iA G 160 fnit)] H → va_S A s.heap H locs → lv_has ls 9 [(8, .int (nI kQ)), (7, .int gd), (6, .int (nI (40 * jt + ji))), (5, .int 0), (0, .ref h0), (1, .int (nI jp)), (2, .int (nI jt)), (3, .int (nI ji)), (4, .int (nI jn))] → W p l e (RM 4 0 0) s m ([.ref h0, .int (nI jp), .int (nI jt), .int (nI ji), .int (nI jn)] : List Value).toArray below meth c H locs 0 0 Q0 (F0 m 211 ls []) := by
                          intro nQ
                          induction nQ with
                          | zero =>
                            intro kQ vW H locs ls hkQ hvW hPD hS hl
                            refine Kan2 hPD (fun hP hD => ?_)
                            obtain rfl : jn = kQ := by omega
                            have hl : lv_has ls 9 [(8, .int (nI jn)), (7, .int gd), (6, .int (nI (40 * jt + ji))), (5, .int 0), (0, .ref h0), (1, .int (nI jp)), (2, .int (nI jt)), (3, .int (nI ji)), (4, .int (nI jn))] := hl
                            refine lv_iload hx hb gX12_stamps_11.2.2.2.2.2.2.2.1 (lv_at0 hl) ?_
                            refine lv_iload hx hb gX12_stamps_11.2.2.2.2.2.2.2.2.1 (lv_at8 hl) ?_
                            refine lv_icmp_ge (tgt := 255) hx hb gX12_stamps_11.2.2.2.2.2.2.2.2.2 (by decide) (fun _ => ?_) (fun c9 => absurd (Int32.le_refl _) c9)
                            refine lv_aload_n hx hb gX12_stamps_14.2.2.2.1 rfl (lv_at4 hl) ?_
                            refine gf_X12_9 hC rfl hK hP 0 rfl rfl gX12_stamps_14.2.2.2.2.1 ?_
                            refine lv_bipush (v := 6) hx hb gX12_stamps_14.2.2.2.2.2.1 (by decide) ?_
                            refine ald hC hK hP 1 rfl (vin (by decide +kernel)) (k := 6) (by decide +kernel) (v := nI (k6 + jn)) (hvW.2.1) gX12_stamps_14.2.2.2.2.2.2.1 ?_
                            have hA9 : STA (nI jp) (nI jt) (nI ji) (nI jn) kq k6 fnso fnsi fnit = nI (k6 + jn) := by unfold STA; first | (simp only [nI_clamp (n := jt) (by omega), nI_clamp (n := ji) (by omega), nI_clamp (n := jn) (by omega), ifc_t ekq, ifc_t hkq, ifc_t ek6, ifc_t hk6, ifc_t hN, ifc_t hV, ifc_t hZ, ifc_t a6414, ifc_t a6416, ifc_t a6418, ifc_t c_35_6419, ifc_t c_50_6420, ifc_f c_59_6421, ifc_t c_80_6422, ifc_f c_184_6423, ifc_t c_202_6424, ifc_f (q := (fnso jt) < 0) (Int32.not_lt.mpr c_35_6419), ifc_f (q := OUTS (nI ji) (fnsi jt) (nI jn)) (by rw [ejz, OUTS.iff (by omega) (by omega) (by omega)]; omega), ifc_t (q := ALS fnit (jt * 40) ji jn) hals, ifc_f (q := 24 < k6 + jn) (by omega)]; done) | (simp only [nI_clamp (n := jt) (by omega), nI_clamp (n := ji) (by omega), nI_clamp (n := jn) (by omega), ifc_t ekq, ifc_t hkq, ifc_t ek6, ifc_t hk6, ifc_t hN, ifc_t hV, ifc_t hZ, ifc_t a6414, ifc_t a6416, ifc_t a6418, ifc_t c_35_6419, ifc_t c_50_6420, ifc_f c_59_6421, ifc_t c_80_6422, ifc_f c_184_6423, ifc_t c_202_6424, ifc_f (q := (fnso jt) < 0) (Int32.not_lt.mpr c_35_6419), ifc_f (q := OUTS (nI ji) (fnsi jt) (nI jn)) (by rw [ejz, OUTS.iff (by omega) (by omega) (by omega)]; omega), ifc_t (q := ALS fnit (jt * 40) ji jn) hals, ifc_f (q := 24 < k6 + jn) (by omega)]; rfl)
                            have hK9 : STK (STA (nI jp) (nI jt) (nI ji) (nI jn) kq k6 fnso fnsi fnit) k6 = nI (k6 + jn) := by unfold STK; rw [hA9]; exact ifc_f (nI_nn (by omega))
                            refine toQ hQ0 ?_
                            exact RI (v := nI (k6 + jn)) hC hP hD hS [0, 1, 2, 3, 4] vW rfl rfl (by decide) (⟨hA9.symm, ⟨hvW.1.1, hvW.1.2.1, (by rw [hK9]; exact hvW.1.2.2.1), hvW.1.2.2.2, fun i hi9 => (hvW.2.2 i hi9).trans (by rw [hA9, ifc_f (nI_nn (by omega)), nI_clamp (n := jt) (by omega), nI_clamp (n := ji) (by omega), nI_clamp (n := jn) (by omega)])⟩⟩) rfl gX12_stamps_14.2.2.2.2.2.2.2
                          | succ nQ ihQ =>
                            intro kQ vW H locs ls hkQ hvW hPD hS hl
                            refine Kan2 hPD (fun hP hD => ?_)
                            refine lv_iload hx hb gX12_stamps_11.2.2.2.2.2.2.2.1 (lv_at0 hl) ?_
                            refine lv_iload hx hb gX12_stamps_11.2.2.2.2.2.2.2.2.1 (lv_at8 hl) ?_
                            refine lv_icmp_ge (tgt := 255) hx hb gX12_stamps_11.2.2.2.2.2.2.2.2.2 (by decide) (fun c9 => absurd c9 (nI_ge (a := kQ) (b := jn) (by omega) (by omega))) (fun _ => ?_)
                            obtain ⟨jc9, hjc9, ejc9⟩ := Wi_nat (N := 5) (by decide) (hals kQ (by omega)).1
                            obtain ⟨jh9, hjh9, ejh9⟩ := Wi_nat (N := 999) (by decide) (hals kQ (by omega)).2
                            obtain ⟨hNQ, hVQ, e6Q⟩ : NI vW ∧ VI vW ∧ vW 6 = nI (k6 + kQ) := ⟨hvW.1.1, hvW.1.2.1, hvW.2.1⟩
                            refine lv_aload_n hx hb gX12_stamps_12.1 rfl (lv_at4 hl) ?_
                            refine lv_iload_n hx hb gX12_stamps_12.2.1 rfl (lv_at5 hl) ?_
                            refine lv_aload_n hx hb gX12_stamps_12.2.2.1 rfl (lv_at4 hl) ?_
                            refine gf_X12_69 hC rfl hK hP 0 rfl rfl gX12_stamps_12.2.2.2.1 ?_
                            refine lv_iload hx hb gX12_stamps_12.2.2.2.2.1 (lv_at2 hl) ?_
                            refine lv_iconst (v := 2) hx hb gX12_stamps_12.2.2.2.2.2.1 (by decide) ?_
                            refine lv_iload hx hb gX12_stamps_12.2.2.2.2.2.2.1 (lv_at0 hl) ?_
                            refine lv_imul hx hb gX12_stamps_12.2.2.2.2.2.2.2.1 ?_
                            refine eqi (x1 := nI (2 * kQ)) (nI_mul 2 kQ) ?_
                            refine lv_iadd hx hb gX12_stamps_12.2.2.2.2.2.2.2.2.1 ?_
                            refine eqi (x1 := nI (40 * jt + ji + 2 * kQ)) (nI_add (40 * jt + ji) (2 * kQ)) ?_
                            refine aldN hC hK hP 4 rfl (k := (40 * jt + ji + 2 * kQ)) (by omega) (Nat.le_of_ble_eq_true rfl) (v := fnit (40 * jt + ji + 2 * kQ)) rfl gX12_stamps_12.2.2.2.2.2.2.2.2.2 ?_
                            refine eqi (x1 := nI jc9) ((show fnit (40 * jt + ji + 2 * kQ) = fnit (jt * 40 + (ji + 2 * kQ)) from congrArg fnit (by omega)).trans ejc9) ?_
                            refine lv_aload_n hx hb gX12_stamps_13.1 rfl (lv_at4 hl) ?_
                            refine gf_X12_69 hC rfl hK hP 0 rfl rfl gX12_stamps_13.2.1 ?_
                            refine lv_iload hx hb gX12_stamps_13.2.2.1 (lv_at2 hl) ?_
                            refine lv_iconst (v := 2) hx hb gX12_stamps_13.2.2.2.1 (by decide) ?_
                            refine lv_iload hx hb gX12_stamps_13.2.2.2.2.1 (lv_at0 hl) ?_
                            refine lv_imul hx hb gX12_stamps_13.2.2.2.2.2.1 ?_
                            refine eqi (x1 := nI (2 * kQ)) (nI_mul 2 kQ) ?_
                            refine lv_iadd hx hb gX12_stamps_13.2.2.2.2.2.2.1 ?_
                            refine eqi (x1 := nI (40 * jt + ji + 2 * kQ)) (nI_add (40 * jt + ji) (2 * kQ)) ?_
                            refine lv_iconst (v := 1) hx hb gX12_stamps_13.2.2.2.2.2.2.2.1 (by decide) ?_
                            refine lv_iadd hx hb gX12_stamps_13.2.2.2.2.2.2.2.2.1 ?_
                            refine eqi (x1 := nI (40 * jt + ji + 2 * kQ + 1)) (nI_add (40 * jt + ji + 2 * kQ) 1) ?_
                            refine aldN hC hK hP 4 rfl (k := (40 * jt + ji + 2 * kQ + 1)) (by omega) (Nat.le_of_ble_eq_true rfl) (v := fnit (40 * jt + ji + 2 * kQ + 1)) rfl gX12_stamps_13.2.2.2.2.2.2.2.2.2 ?_
                            refine eqi (x1 := nI jh9) ((show fnit (40 * jt + ji + 2 * kQ + 1) = fnit (jt * 40 + (ji + 2 * kQ + 1)) from congrArg fnit (by omega)).trans ejh9) ?_
                            refine vV (wr := [(nso, iA G 4 fnso), (nsi, iA G 4 fnsi), (nit, iA G 160 fnit)]) hC hK hl hP hD hS hA (m_stamped l G (k6 + kQ) h0 jp jc9 jh9 nw nk mhasKept nt mtaped nr mrowMany mroundOf mroundFrom mouts nm mfromHour mtoHour ns mfrom mto msort misFault mdeep mcoded mlines nl nc nF np ntr nb mbestCost nso nsi nit nsh nsf nss nrc mtraced mdealer mnumber mwhose msize misParted vW (e6Q) (by omega) (by omega) (by omega) (by omega) (hNQ) (hVQ)) si_X12_133 [0, 1] [2, 3, 4] sm_0_1 fm_0_1 nd_0_1 sm_2_3_4 nd_2_3_4 dj_0_1__2_3_4 rfl rfl rfl rfl rfl (Nat.le_of_ble_eq_true rfl) rm_4_1_5 ⟨Nat.le_of_ble_eq_true rfl, Nat.le_of_ble_eq_true rfl⟩ gX12_stamps_14.1 (fun gnw6427 H locs hr6425 hP hD hS => ?_)
                            try dsimp only at hr6425
                            refine Kpdr (ws := [(nso, iA G 4 fnso), (nsi, iA G 4 fnsi), (nit, iA G 160 fnit), (h0, oX12 nw nk mhasKept nt mtaped nr mrowMany mroundOf mroundFrom mouts nm mfromHour mtoHour ns mfrom mto msort misFault mdeep mcoded mlines nl nc nF np ntr nb mbestCost nso nsi nit nsh nsf nss nrc mtraced mdealer mnumber mwhose msize misParted), (nw, iA G 1662 gnw6427)]) hP hD (fun hP hD => ?_)
                            have w6428 := hr6425
                            refine lv_iinc (v := nI (kQ + 1)) (lv' := [(8, .int (nI (kQ + 1))), (7, .int gd), (6, .int (nI (40 * jt + ji))), (5, .int 0), (0, .ref h0), (1, .int (nI jp)), (2, .int (nI jt)), (3, .int (nI ji)), (4, .int (nI jn))]) hx hb gX12_stamps_14.2.1 hl (k := 0) rfl (nI_1 _) (by decide) rfl (fun ls hl => ?_)
                            refine lv_goto (tgt := 211) hx hb gX12_stamps_14.2.2.1 (by decide) ?_
                            refine Kpds (ws' := [(h0, oX12 nw nk mhasKept nt mtaped nr mrowMany mroundOf mroundFrom mouts nm mfromHour mtoHour ns mfrom mto msort misFault mdeep mcoded mlines nl nc nF np ntr nb mbestCost nso nsi nit nsh nsf nss nrc mtraced mdealer mnumber mwhose msize misParted), (nw, iA G 1662 gnw6427), (nso, iA G 4 fnso), (nsi, iA G 4 fnsi), (nit, iA G 160 fnit)]) hP hD [3, 4, 0, 1, 2] fm_3_4_0_1_2 nd_3_4_0_1_2 sm_3_4_0_1_2 (fun hP hD => ?_)
                            have hst9 : (NI gnw6427 ∧ VI gnw6427 ∧ SCX gnw6427 (fnw 0) (fnw 1) (fnw 2) (fnw 3) (fnw 4) (fnw 5) (nI (k6 + (kQ + 1))) (fnw 8) (fnw 9) (fnw 10) (fnw 11) ∧ FRO gnw6427 fnw 104 176) ∧ gnw6427 6 = nI (k6 + (kQ + 1)) ∧ ∀ i : Nat, i < 72 → gnw6427 (104 + i) = APS (shf fnw 104) k6 (nI jp) fnit (jt * 40) ji (kQ + 1) i := ⟨⟨w6428.1.1, w6428.1.2.1, SCX.st6 hvW.1.2.2.1 w6428.1.2.2.1, FRO.tr w6428.1.2.2.2 hvW.1.2.2.2⟩, w6428.2.1, fun i hi9 => (w6428.2.2 i hi9).trans (APS.step hvW.2.2 ejc9.symm ejh9.symm i hi9)⟩
                            exact ihQ (kQ + 1) gnw6427 _ _ _ (by omega) (by first | assumption | exact Or.inl rfl | exact Or.inr rfl | exact ⟨⟨hN, hV, ⟨rfl, rfl, rfl, rfl, rfl, rfl, ek6, rfl, rfl, rfl, rfl⟩, FRO.rf⟩, ek6, fun _ _ => rfl⟩) (And.intro hP hD) hS (lv_sub hl [0, 1, 2, 3, 4, 5, 6, 7, 8] rfl)
                        exact keyQ jn 0 fnw _ _ _ (by omega) (by first | assumption | exact Or.inl rfl | exact Or.inr rfl | exact ⟨⟨hN, hV, ⟨rfl, rfl, rfl, rfl, rfl, rfl, ek6, rfl, rfl, rfl, rfl⟩, FRO.rf⟩, ek6, fun _ _ => rfl⟩) (And.intro hP hD) hS (lv_sub hl [0, 1, 2, 3, 4, 5, 6, 7, 8] rfl)
                      · refine lv_bipush (v := (-2)) hx hb gX12_stamps_11.2.2.2.1 (by decide) ?_
                        have hA9 : STA (nI jp) (nI jt) (nI ji) (nI jn) kq k6 fnso fnsi fnit = (-2) := by unfold STA; first | (simp only [nI_clamp (n := jt) (by omega), nI_clamp (n := ji) (by omega), nI_clamp (n := jn) (by omega), ifc_t ekq, ifc_t hkq, ifc_t ek6, ifc_t hk6, ifc_t hN, ifc_t hV, ifc_t hZ, ifc_t a6414, ifc_t a6416, ifc_t a6418, ifc_t c_35_6419, ifc_t c_50_6420, ifc_f c_59_6421, ifc_t c_80_6422, ifc_f c_184_6423, ifc_f c_202_6424, ifc_f (q := (fnso jt) < 0) (Int32.not_lt.mpr c_35_6419), ifc_f (q := OUTS (nI ji) (fnsi jt) (nI jn)) (by rw [ejz, OUTS.iff (by omega) (by omega) (by omega)]; omega), ifc_t (q := ALS fnit (jt * 40) ji jn) hals, ifc_t (q := 24 < k6 + jn) (by have h9 : ¬ k6 + jn ≤ 24 := fun h8 => c_202_6424 ((nI_leI (a := k6 + jn) (b := 24) (by omega) (by decide)).mpr h8); omega)]; done) | (simp only [nI_clamp (n := jt) (by omega), nI_clamp (n := ji) (by omega), nI_clamp (n := jn) (by omega), ifc_t ekq, ifc_t hkq, ifc_t ek6, ifc_t hk6, ifc_t hN, ifc_t hV, ifc_t hZ, ifc_t a6414, ifc_t a6416, ifc_t a6418, ifc_t c_35_6419, ifc_t c_50_6420, ifc_f c_59_6421, ifc_t c_80_6422, ifc_f c_184_6423, ifc_f c_202_6424, ifc_f (q := (fnso jt) < 0) (Int32.not_lt.mpr c_35_6419), ifc_f (q := OUTS (nI ji) (fnsi jt) (nI jn)) (by rw [ejz, OUTS.iff (by omega) (by omega) (by omega)]; omega), ifc_t (q := ALS fnit (jt * 40) ji jn) hals, ifc_t (q := 24 < k6 + jn) (by have h9 : ¬ k6 + jn ≤ 24 := fun h8 => c_202_6424 ((nI_leI (a := k6 + jn) (b := 24) (by omega) (by decide)).mpr h8); omega)]; rfl)
                        have hK9 : STK (STA (nI jp) (nI jt) (nI ji) (nI jn) kq k6 fnso fnsi fnit) k6 = nI k6 := by unfold STK; rw [hA9]; exact ifc_t (by decide)
                        refine toQ hQ0 ?_
                        exact RI (v := (-2)) hC hP hD hS [0, 1, 2, 3, 4] fnw rfl rfl (by decide) (⟨hA9.symm, ⟨hN, hV, (by rw [hK9, ← ek6]; exact SCX.rf), FRO.rf, fun i hi9 => (by rw [hA9]; exact (ifc_t (by decide)).symm)⟩⟩) rfl gX12_stamps_11.2.2.2.2.1
                    · refine lv_bipush (v := (-4)) hx hb gX12_stamps_10.2.2.2.1 (by decide) ?_
                      have hA9 : STA (nI jp) (nI jt) (nI ji) (nI jn) kq k6 fnso fnsi fnit = (-4) := by unfold STA; first | (simp only [nI_clamp (n := jt) (by omega), nI_clamp (n := ji) (by omega), nI_clamp (n := jn) (by omega), ifc_t ekq, ifc_t hkq, ifc_t ek6, ifc_t hk6, ifc_t hN, ifc_t hV, ifc_t hZ, ifc_t a6414, ifc_t a6416, ifc_t a6418, ifc_t c_35_6419, ifc_t c_50_6420, ifc_f c_59_6421, ifc_t c_80_6422, ifc_t c_184_6423, ifc_f (q := (fnso jt) < 0) (Int32.not_lt.mpr c_35_6419), ifc_f (q := OUTS (nI ji) (fnsi jt) (nI jn)) (by rw [ejz, OUTS.iff (by omega) (by omega) (by omega)]; omega), ifc_f (q := ALS fnit (jt * 40) ji jn) (GX.f hgx c_184_6423)]; done) | (simp only [nI_clamp (n := jt) (by omega), nI_clamp (n := ji) (by omega), nI_clamp (n := jn) (by omega), ifc_t ekq, ifc_t hkq, ifc_t ek6, ifc_t hk6, ifc_t hN, ifc_t hV, ifc_t hZ, ifc_t a6414, ifc_t a6416, ifc_t a6418, ifc_t c_35_6419, ifc_t c_50_6420, ifc_f c_59_6421, ifc_t c_80_6422, ifc_t c_184_6423, ifc_f (q := (fnso jt) < 0) (Int32.not_lt.mpr c_35_6419), ifc_f (q := OUTS (nI ji) (fnsi jt) (nI jn)) (by rw [ejz, OUTS.iff (by omega) (by omega) (by omega)]; omega), ifc_f (q := ALS fnit (jt * 40) ji jn) (GX.f hgx c_184_6423)]; rfl)
                      have hK9 : STK (STA (nI jp) (nI jt) (nI ji) (nI jn) kq k6 fnso fnsi fnit) k6 = nI k6 := by unfold STK; rw [hA9]; exact ifc_t (by decide)
                      refine toQ hQ0 ?_
                      exact RI (v := (-4)) hC hP hD hS [0, 1, 2, 3, 4] fnw rfl rfl (by decide) (⟨hA9.symm, ⟨hN, hV, (by rw [hK9, ← ek6]; exact SCX.rf), FRO.rf, fun i hi9 => (by rw [hA9]; exact (ifc_t (by decide)).symm)⟩⟩) rfl gX12_stamps_10.2.2.2.2.1
                  | succ nP ihP =>
                    intro kP gd H locs ls hkP hgx hPD hS hl
                    refine Kan2 hPD (fun hP hD => ?_)
                    refine lv_iload hx hb gX12_stamps_6.2.2.2.2.1 (lv_at0 hl) ?_
                    refine lv_iload hx hb gX12_stamps_6.2.2.2.2.2.1 (lv_at8 hl) ?_
                    refine lv_icmp_ge (tgt := 182) hx hb gX12_stamps_6.2.2.2.2.2.2.1 (by decide) (fun c9 => absurd c9 (nI_ge (a := kP) (b := jn) (by omega) (by omega))) (fun _ => ?_)
                    refine lv_iload hx hb gX12_stamps_6.2.2.2.2.2.2.2.1 (lv_at1 hl) ?_
                    refine lv_if_eq (tgt := 173) hx hb gX12_stamps_6.2.2.2.2.2.2.2.2.1 (by decide) (fun c_122_6429 => ?_) (fun c_122_6429 => ?_)
                    · refine lv_iconst (v := 0) hx hb gX12_stamps_9.2.2.2.2.2.2.2.1 (by decide) ?_
                      refine lv_istore (lv' := [(7, .int 0), (8, .int (nI kP)), (6, .int (nI (40 * jt + ji))), (5, .int 0), (0, .ref h0), (1, .int (nI jp)), (2, .int (nI jt)), (3, .int (nI ji)), (4, .int (nI jn))]) hx hb gX12_stamps_9.2.2.2.2.2.2.2.2.1 hl (by decide) rfl (fun ls hl => ?_)
                      refine lv_iinc (v := nI (kP + 1)) (lv' := [(8, .int (nI (kP + 1))), (7, .int 0), (6, .int (nI (40 * jt + ji))), (5, .int 0), (0, .ref h0), (1, .int (nI jp)), (2, .int (nI jt)), (3, .int (nI ji)), (4, .int (nI jn))]) hx hb gX12_stamps_9.2.2.2.2.2.2.2.2.2 hl (k := 1) rfl (nI_1 _) (by decide) rfl (fun ls hl => ?_)
                      refine lv_goto (tgt := 113) hx hb gX12_stamps_10.1 (by decide) ?_
                      have hst9 : GX fnit (jt * 40) ji (kP + 1) 0 := GX.z hgx c_122_6429
                      exact ihP (kP + 1) 0 _ _ _ (by omega) (by first | assumption | exact Or.inl rfl | exact Or.inr rfl | exact GX.zero) (And.intro hP hD) hS (lv_sub hl [0, 1, 2, 3, 4, 5, 6, 7, 8] rfl)
                    · refine lv_aload_n hx hb gX12_stamps_6.2.2.2.2.2.2.2.2.2 rfl (lv_at4 hl) ?_
                      refine gf_X12_69 hC rfl hK hP 0 rfl rfl gX12_stamps_7.1 ?_
                      refine lv_iload hx hb gX12_stamps_7.2.1 (lv_at2 hl) ?_
                      refine lv_iconst (v := 2) hx hb gX12_stamps_7.2.2.1 (by decide) ?_
                      refine lv_iload hx hb gX12_stamps_7.2.2.2.1 (lv_at0 hl) ?_
                      refine lv_imul hx hb gX12_stamps_7.2.2.2.2.1 ?_
                      refine eqi (x1 := nI (2 * kP)) (nI_mul 2 kP) ?_
                      refine lv_iadd hx hb gX12_stamps_7.2.2.2.2.2.1 ?_
                      refine eqi (x1 := nI (40 * jt + ji + 2 * kP)) (nI_add (40 * jt + ji) (2 * kP)) ?_
                      refine aldN hC hK hP 4 rfl (k := (40 * jt + ji + 2 * kP)) (by omega) (Nat.le_of_ble_eq_true rfl) (v := fnit (40 * jt + ji + 2 * kP)) rfl gX12_stamps_7.2.2.2.2.2.2.1 ?_
                      refine lv_iconst (v := 0) hx hb gX12_stamps_7.2.2.2.2.2.2.2.1 (by decide) ?_
                      refine lv_iconst (v := 5) hx hb gX12_stamps_7.2.2.2.2.2.2.2.2.1 (by decide) ?_
                      refine pS hC hK hl (m_within l G (fnit (40 * jt + ji + 2 * kP)) 0 5) si_X12_84 rfl rfl (Nat.le_of_ble_eq_true rfl) rm_4_1_3 ⟨by first | exact Nat.le_of_ble_eq_true rfl | exact Nat.zero_le _, by first | exact Nat.le_of_ble_eq_true rfl | exact Nat.zero_le _⟩ gX12_stamps_7.2.2.2.2.2.2.2.2.2 (Kors (Keqa fun a6431 => ?_) (Keqa fun a6431 => ?_))
                      · refine lv_if_eq (tgt := 173) hx hb gX12_stamps_8.1 (by decide) (fun c9 => absurd c9 (by decide)) (fun _ => ?_)
                        refine lv_aload_n hx hb gX12_stamps_8.2.1 rfl (lv_at4 hl) ?_
                        refine gf_X12_69 hC rfl hK hP 0 rfl rfl gX12_stamps_8.2.2.1 ?_
                        refine lv_iload hx hb gX12_stamps_8.2.2.2.1 (lv_at2 hl) ?_
                        refine lv_iconst (v := 2) hx hb gX12_stamps_8.2.2.2.2.1 (by decide) ?_
                        refine lv_iload hx hb gX12_stamps_8.2.2.2.2.2.1 (lv_at0 hl) ?_
                        refine lv_imul hx hb gX12_stamps_8.2.2.2.2.2.2.1 ?_
                        refine eqi (x1 := nI (2 * kP)) (nI_mul 2 kP) ?_
                        refine lv_iadd hx hb gX12_stamps_8.2.2.2.2.2.2.2.1 ?_
                        refine eqi (x1 := nI (40 * jt + ji + 2 * kP)) (nI_add (40 * jt + ji) (2 * kP)) ?_
                        refine lv_iconst (v := 1) hx hb gX12_stamps_8.2.2.2.2.2.2.2.2.1 (by decide) ?_
                        refine lv_iadd hx hb gX12_stamps_8.2.2.2.2.2.2.2.2.2 ?_
                        refine eqi (x1 := nI (40 * jt + ji + 2 * kP + 1)) (nI_add (40 * jt + ji + 2 * kP) 1) ?_
                        refine aldN hC hK hP 4 rfl (k := (40 * jt + ji + 2 * kP + 1)) (by omega) (Nat.le_of_ble_eq_true rfl) (v := fnit (40 * jt + ji + 2 * kP + 1)) rfl gX12_stamps_9.1 ?_
                        refine lv_iconst (v := 0) hx hb gX12_stamps_9.2.1 (by decide) ?_
                        refine lv_sipush (v := 999) hx hb gX12_stamps_9.2.2.1 (by decide) ?_
                        refine pS hC hK hl (m_within l G (fnit (40 * jt + ji + 2 * kP + 1)) 0 999) si_X12_84 rfl rfl (Nat.le_of_ble_eq_true rfl) rm_4_1_3 ⟨by first | exact Nat.le_of_ble_eq_true rfl | exact Nat.zero_le _, by first | exact Nat.le_of_ble_eq_true rfl | exact Nat.zero_le _⟩ gX12_stamps_9.2.2.2.1 (Kors (Keqa fun a6433 => ?_) (Keqa fun a6433 => ?_))
                        · refine lv_if_eq (tgt := 173) hx hb gX12_stamps_9.2.2.2.2.1 (by decide) (fun c9 => absurd c9 (by decide)) (fun _ => ?_)
                          refine lv_iconst (v := 1) hx hb gX12_stamps_9.2.2.2.2.2.1 (by decide) ?_
                          refine lv_goto (tgt := 174) hx hb gX12_stamps_9.2.2.2.2.2.2.1 (by decide) ?_
                          refine lv_istore (lv' := [(7, .int 1), (8, .int (nI kP)), (6, .int (nI (40 * jt + ji))), (5, .int 0), (0, .ref h0), (1, .int (nI jp)), (2, .int (nI jt)), (3, .int (nI ji)), (4, .int (nI jn))]) hx hb gX12_stamps_9.2.2.2.2.2.2.2.2.1 hl (by decide) rfl (fun ls hl => ?_)
                          refine lv_iinc (v := nI (kP + 1)) (lv' := [(8, .int (nI (kP + 1))), (7, .int 1), (6, .int (nI (40 * jt + ji))), (5, .int 0), (0, .ref h0), (1, .int (nI jp)), (2, .int (nI jt)), (3, .int (nI ji)), (4, .int (nI jn))]) hx hb gX12_stamps_9.2.2.2.2.2.2.2.2.2 hl (k := 1) rfl (nI_1 _) (by decide) rfl (fun ls hl => ?_)
                          refine lv_goto (tgt := 113) hx hb gX12_stamps_10.1 (by decide) ?_
                          have hst9 : GX fnit (jt * 40) ji (kP + 1) 1 := GX.n hgx c_122_6429 (show fnit (40 * jt + ji + 2 * kP) = fnit (jt * 40 + (ji + 2 * kP)) from congrArg fnit (by omega)) (show fnit (40 * jt + ji + 2 * kP + 1) = fnit (jt * 40 + (ji + 2 * kP + 1)) from congrArg fnit (by omega)) a6431 a6433
                          exact ihP (kP + 1) 1 _ _ _ (by omega) (by first | assumption | exact Or.inl rfl | exact Or.inr rfl | exact GX.zero) (And.intro hP hD) hS (lv_sub hl [0, 1, 2, 3, 4, 5, 6, 7, 8] rfl)
                        · refine lv_if_eq (tgt := 173) hx hb gX12_stamps_9.2.2.2.2.1 (by decide) (fun _ => ?_) (fun c9 => absurd (by decide) c9)
                          refine lv_iconst (v := 0) hx hb gX12_stamps_9.2.2.2.2.2.2.2.1 (by decide) ?_
                          refine lv_istore (lv' := [(7, .int 0), (8, .int (nI kP)), (6, .int (nI (40 * jt + ji))), (5, .int 0), (0, .ref h0), (1, .int (nI jp)), (2, .int (nI jt)), (3, .int (nI ji)), (4, .int (nI jn))]) hx hb gX12_stamps_9.2.2.2.2.2.2.2.2.1 hl (by decide) rfl (fun ls hl => ?_)
                          refine lv_iinc (v := nI (kP + 1)) (lv' := [(8, .int (nI (kP + 1))), (7, .int 0), (6, .int (nI (40 * jt + ji))), (5, .int 0), (0, .ref h0), (1, .int (nI jp)), (2, .int (nI jt)), (3, .int (nI ji)), (4, .int (nI jn))]) hx hb gX12_stamps_9.2.2.2.2.2.2.2.2.2 hl (k := 1) rfl (nI_1 _) (by decide) rfl (fun ls hl => ?_)
                          refine lv_goto (tgt := 113) hx hb gX12_stamps_10.1 (by decide) ?_
                          have hst9 : GX fnit (jt * 40) ji (kP + 1) 0 := GX.b (show fnit (40 * jt + ji + 2 * kP + 1) = fnit (jt * 40 + (ji + 2 * kP + 1)) from congrArg fnit (by omega)) a6433
                          exact ihP (kP + 1) 0 _ _ _ (by omega) (by first | assumption | exact Or.inl rfl | exact Or.inr rfl | exact GX.zero) (And.intro hP hD) hS (lv_sub hl [0, 1, 2, 3, 4, 5, 6, 7, 8] rfl)
                      · refine lv_if_eq (tgt := 173) hx hb gX12_stamps_8.1 (by decide) (fun _ => ?_) (fun c9 => absurd (by decide) c9)
                        refine lv_iconst (v := 0) hx hb gX12_stamps_9.2.2.2.2.2.2.2.1 (by decide) ?_
                        refine lv_istore (lv' := [(7, .int 0), (8, .int (nI kP)), (6, .int (nI (40 * jt + ji))), (5, .int 0), (0, .ref h0), (1, .int (nI jp)), (2, .int (nI jt)), (3, .int (nI ji)), (4, .int (nI jn))]) hx hb gX12_stamps_9.2.2.2.2.2.2.2.2.1 hl (by decide) rfl (fun ls hl => ?_)
                        refine lv_iinc (v := nI (kP + 1)) (lv' := [(8, .int (nI (kP + 1))), (7, .int 0), (6, .int (nI (40 * jt + ji))), (5, .int 0), (0, .ref h0), (1, .int (nI jp)), (2, .int (nI jt)), (3, .int (nI ji)), (4, .int (nI jn))]) hx hb gX12_stamps_9.2.2.2.2.2.2.2.2.2 hl (k := 1) rfl (nI_1 _) (by decide) rfl (fun ls hl => ?_)
                        refine lv_goto (tgt := 113) hx hb gX12_stamps_10.1 (by decide) ?_
                        have hst9 : GX fnit (jt * 40) ji (kP + 1) 0 := GX.a (show fnit (40 * jt + ji + 2 * kP) = fnit (jt * 40 + (ji + 2 * kP)) from congrArg fnit (by omega)) a6431
                        exact ihP (kP + 1) 0 _ _ _ (by omega) (by first | assumption | exact Or.inl rfl | exact Or.inr rfl | exact GX.zero) (And.intro hP hD) hS (lv_sub hl [0, 1, 2, 3, 4, 5, 6, 7, 8] rfl)
                exact keyP jn 0 1 _ _ _ (by omega) (by first | assumption | exact Or.inl rfl | exact Or.inr rfl | exact GX.zero) (And.intro hP hD) hS (lv_sub hl [0, 1, 2, 3, 4, 5, 6, 7, 8] rfl)
              · refine lv_bipush (v := (-12)) hx hb gX12_stamps_4.2.2.2.2.2.2.1 (by decide) ?_
                refine lv_goto (tgt := 89) hx hb gX12_stamps_4.2.2.2.2.2.2.2.1 (by decide) ?_
                refine lv_istore (lv' := [(5, .int (-12)), (0, .ref h0), (1, .int (nI jp)), (2, .int (nI jt)), (3, .int (nI ji)), (4, .int (nI jn))]) hx hb gX12_stamps_4.2.2.2.2.2.2.2.2.2 hl (by decide) rfl (fun ls hl => ?_)
                refine lv_iload hx hb gX12_stamps_5.1 (lv_at0 hl) ?_
                refine lv_if_eq (tgt := 99) hx hb gX12_stamps_5.2.1 (by decide) (fun c9 => absurd c9 (by decide)) (fun _ => ?_)
                refine lv_iload hx hb gX12_stamps_5.2.2.1 (lv_at0 hl) ?_
                have hA9 : STA (nI jp) (nI jt) (nI ji) (nI jn) kq k6 fnso fnsi fnit = (-12) := by unfold STA; first | (simp only [nI_clamp (n := jt) (by omega), nI_clamp (n := ji) (by omega), nI_clamp (n := jn) (by omega), ifc_t ekq, ifc_t hkq, ifc_t ek6, ifc_t hk6, ifc_t hN, ifc_t hV, ifc_t hZ, ifc_t a6414, ifc_t a6416, ifc_t a6418, ifc_t c_35_6419, ifc_t c_50_6420, ifc_f c_59_6421, ifc_f c_80_6422, ifc_f (q := (fnso jt) < 0) (Int32.not_lt.mpr c_35_6419), ifc_t (q := OUTS (nI ji) (fnsi jt) (nI jn)) (Or.inr (by have h9 := st_out (ji := ji) (jn := jn) (k := jz) (by omega) (by omega) (by omega) c_80_6422; rw [ejz, nI_toInt (n := jz) (by omega), nI_toInt (n := ji) hji, nI_toInt (n := jn) (by omega)]; omega))]; done) | (simp only [nI_clamp (n := jt) (by omega), nI_clamp (n := ji) (by omega), nI_clamp (n := jn) (by omega), ifc_t ekq, ifc_t hkq, ifc_t ek6, ifc_t hk6, ifc_t hN, ifc_t hV, ifc_t hZ, ifc_t a6414, ifc_t a6416, ifc_t a6418, ifc_t c_35_6419, ifc_t c_50_6420, ifc_f c_59_6421, ifc_f c_80_6422, ifc_f (q := (fnso jt) < 0) (Int32.not_lt.mpr c_35_6419), ifc_t (q := OUTS (nI ji) (fnsi jt) (nI jn)) (Or.inr (by have h9 := st_out (ji := ji) (jn := jn) (k := jz) (by omega) (by omega) (by omega) c_80_6422; rw [ejz, nI_toInt (n := jz) (by omega), nI_toInt (n := ji) hji, nI_toInt (n := jn) (by omega)]; omega))]; rfl)
                have hK9 : STK (STA (nI jp) (nI jt) (nI ji) (nI jn) kq k6 fnso fnsi fnit) k6 = nI k6 := by unfold STK; rw [hA9]; exact ifc_t (by decide)
                refine toQ hQ0 ?_
                exact RI (v := (-12)) hC hP hD hS [0, 1, 2, 3, 4] fnw rfl rfl (by decide) (⟨hA9.symm, ⟨hN, hV, (by rw [hK9, ← ek6]; exact SCX.rf), FRO.rf, fun i hi9 => (by rw [hA9]; exact (ifc_t (by decide)).symm)⟩⟩) rfl gX12_stamps_5.2.2.2.1
          · refine lv_bipush (v := (-13)) hx hb gX12_stamps_2.2.2.2.2.2.2.2.2.1 (by decide) ?_
            refine lv_goto (tgt := 89) hx hb gX12_stamps_2.2.2.2.2.2.2.2.2.2 (by decide) ?_
            refine lv_istore (lv' := [(5, .int (-13)), (0, .ref h0), (1, .int (nI jp)), (2, .int (nI jt)), (3, .int x3), (4, .int (nI jn))]) hx hb gX12_stamps_4.2.2.2.2.2.2.2.2.2 hl (by decide) rfl (fun ls hl => ?_)
            refine lv_iload hx hb gX12_stamps_5.1 (lv_at0 hl) ?_
            refine lv_if_eq (tgt := 99) hx hb gX12_stamps_5.2.1 (by decide) (fun c9 => absurd c9 (by decide)) (fun _ => ?_)
            refine lv_iload hx hb gX12_stamps_5.2.2.1 (lv_at0 hl) ?_
            have hA9 : STA (nI jp) (nI jt) x3 (nI jn) kq k6 fnso fnsi fnit = (-13) := by unfold STA; first | (simp only [nI_clamp (n := jt) (by omega), nI_clamp (n := jn) (by omega), ifc_t ekq, ifc_t hkq, ifc_t ek6, ifc_t hk6, ifc_t hN, ifc_t hV, ifc_t hZ, ifc_t a6414, ifc_t a6416, ifc_t a6418, ifc_t c_35_6419, ifc_f c_50_6420, ifc_f (q := (fnso jt) < 0) (Int32.not_lt.mpr c_35_6419)]; done) | (simp only [nI_clamp (n := jt) (by omega), nI_clamp (n := jn) (by omega), ifc_t ekq, ifc_t hkq, ifc_t ek6, ifc_t hk6, ifc_t hN, ifc_t hV, ifc_t hZ, ifc_t a6414, ifc_t a6416, ifc_t a6418, ifc_t c_35_6419, ifc_f c_50_6420, ifc_f (q := (fnso jt) < 0) (Int32.not_lt.mpr c_35_6419)]; rfl)
            have hK9 : STK (STA (nI jp) (nI jt) x3 (nI jn) kq k6 fnso fnsi fnit) k6 = nI k6 := by unfold STK; rw [hA9]; exact ifc_t (by decide)
            refine toQ hQ0 ?_
            exact RI (v := (-13)) hC hP hD hS [0, 1, 2, 3, 4] fnw rfl rfl (by decide) (⟨hA9.symm, ⟨hN, hV, (by rw [hK9, ← ek6]; exact SCX.rf), FRO.rf, fun i hi9 => (by rw [hA9]; exact (ifc_t (by decide)).symm)⟩⟩) rfl gX12_stamps_5.2.2.2.1
        · refine lv_bipush (v := (-11)) hx hb gX12_stamps_2.1 (by decide) ?_
          refine lv_goto (tgt := 89) hx hb gX12_stamps_2.2.1 (by decide) ?_
          refine lv_istore (lv' := [(5, .int (-11)), (0, .ref h0), (1, .int (nI jp)), (2, .int (nI jt)), (3, .int x3), (4, .int (nI jn))]) hx hb gX12_stamps_4.2.2.2.2.2.2.2.2.2 hl (by decide) rfl (fun ls hl => ?_)
          refine lv_iload hx hb gX12_stamps_5.1 (lv_at0 hl) ?_
          refine lv_if_eq (tgt := 99) hx hb gX12_stamps_5.2.1 (by decide) (fun c9 => absurd c9 (by decide)) (fun _ => ?_)
          refine lv_iload hx hb gX12_stamps_5.2.2.1 (lv_at0 hl) ?_
          have hA9 : STA (nI jp) (nI jt) x3 (nI jn) kq k6 fnso fnsi fnit = (-11) := by unfold STA; first | (simp only [nI_clamp (n := jt) (by omega), nI_clamp (n := jn) (by omega), ifc_t ekq, ifc_t hkq, ifc_t ek6, ifc_t hk6, ifc_t hN, ifc_t hV, ifc_t hZ, ifc_t a6414, ifc_t a6416, ifc_t a6418, ifc_f c_35_6419, ifc_t (q := (fnso jt) < 0) (Int32.not_le.mp c_35_6419)]; done) | (simp only [nI_clamp (n := jt) (by omega), nI_clamp (n := jn) (by omega), ifc_t ekq, ifc_t hkq, ifc_t ek6, ifc_t hk6, ifc_t hN, ifc_t hV, ifc_t hZ, ifc_t a6414, ifc_t a6416, ifc_t a6418, ifc_f c_35_6419, ifc_t (q := (fnso jt) < 0) (Int32.not_le.mp c_35_6419)]; rfl)
          have hK9 : STK (STA (nI jp) (nI jt) x3 (nI jn) kq k6 fnso fnsi fnit) k6 = nI k6 := by unfold STK; rw [hA9]; exact ifc_t (by decide)
          refine toQ hQ0 ?_
          exact RI (v := (-11)) hC hP hD hS [0, 1, 2, 3, 4] fnw rfl rfl (by decide) (⟨hA9.symm, ⟨hN, hV, (by rw [hK9, ← ek6]; exact SCX.rf), FRO.rf, fun i hi9 => (by rw [hA9]; exact (ifc_t (by decide)).symm)⟩⟩) rfl gX12_stamps_5.2.2.2.1
      · refine lv_if_ne (tgt := 29) hx hb gX12_stamps_1.2.2.1 (by decide) (fun c9 => absurd (by decide) c9) (fun _ => ?_)
        refine lv_iconst (v := (-1)) hx hb gX12_stamps_1.2.2.2.1 (by decide) ?_
        have hA9 : STA x1 x2 x3 x4 kq k6 fnso fnsi fnit = (-1) := by unfold STA; first | (simp only [ifc_t ekq, ifc_t hkq, ifc_t ek6, ifc_t hk6, ifc_t hN, ifc_t hV, ifc_t hZ, ifc_t a6414, ifc_t a6416, ifc_f a6418]; done) | (simp only [ifc_t ekq, ifc_t hkq, ifc_t ek6, ifc_t hk6, ifc_t hN, ifc_t hV, ifc_t hZ, ifc_t a6414, ifc_t a6416, ifc_f a6418]; rfl)
        have hK9 : STK (STA x1 x2 x3 x4 kq k6 fnso fnsi fnit) k6 = nI k6 := by unfold STK; rw [hA9]; exact ifc_t (by decide)
        refine toQ hQ0 ?_
        exact RI (v := (-1)) hC hP hD hS [0, 1, 2, 3, 4] fnw rfl rfl (by decide) (⟨hA9.symm, ⟨hN, hV, (by rw [hK9, ← ek6]; exact SCX.rf), FRO.rf, fun i hi9 => (by rw [hA9]; exact (ifc_t (by decide)).symm)⟩⟩) rfl gX12_stamps_1.2.2.2.2.1
    · refine lv_if_eq (tgt := 27) hx hb gX12_stamps_0.2.2.2.2.2.2.2.1 (by decide) (fun _ => ?_) (fun c9 => absurd (by decide) c9)
      refine lv_iconst (v := (-1)) hx hb gX12_stamps_1.2.2.2.1 (by decide) ?_
      have hA9 : STA x1 x2 x3 x4 kq k6 fnso fnsi fnit = (-1) := by unfold STA; first | (simp only [ifc_t ekq, ifc_t hkq, ifc_t ek6, ifc_t hk6, ifc_t hN, ifc_t hV, ifc_t hZ, ifc_t a6414, ifc_f a6416]; done) | (simp only [ifc_t ekq, ifc_t hkq, ifc_t ek6, ifc_t hk6, ifc_t hN, ifc_t hV, ifc_t hZ, ifc_t a6414, ifc_f a6416]; rfl)
      have hK9 : STK (STA x1 x2 x3 x4 kq k6 fnso fnsi fnit) k6 = nI k6 := by unfold STK; rw [hA9]; exact ifc_t (by decide)
      refine toQ hQ0 ?_
      exact RI (v := (-1)) hC hP hD hS [0, 1, 2, 3, 4] fnw rfl rfl (by decide) (⟨hA9.symm, ⟨hN, hV, (by rw [hK9, ← ek6]; exact SCX.rf), FRO.rf, fun i hi9 => (by rw [hA9]; exact (ifc_t (by decide)).symm)⟩⟩) rfl gX12_stamps_1.2.2.2.2.1
  · refine lv_if_eq (tgt := 27) hx hb gX12_stamps_0.2.2.2.2.1 (by decide) (fun _ => ?_) (fun c9 => absurd (by decide) c9)
    refine lv_iconst (v := (-1)) hx hb gX12_stamps_1.2.2.2.1 (by decide) ?_
    have hA9 : STA x1 x2 x3 x4 kq k6 fnso fnsi fnit = (-1) := by unfold STA; first | (simp only [ifc_t ekq, ifc_t hkq, ifc_t ek6, ifc_t hk6, ifc_t hN, ifc_t hV, ifc_t hZ, ifc_f a6414]; done) | (simp only [ifc_t ekq, ifc_t hkq, ifc_t ek6, ifc_t hk6, ifc_t hN, ifc_t hV, ifc_t hZ, ifc_f a6414]; rfl)
    have hK9 : STK (STA x1 x2 x3 x4 kq k6 fnso fnsi fnit) k6 = nI k6 := by unfold STK; rw [hA9]; exact ifc_t (by decide)
    refine toQ hQ0 ?_
    exact RI (v := (-1)) hC hP hD hS [0, 1, 2, 3, 4] fnw rfl rfl (by decide) (⟨hA9.symm, ⟨hN, hV, (by rw [hK9, ← ek6]; exact SCX.rf), FRO.rf, fun i hi9 => (by rw [hA9]; exact (ifc_t (by decide)).symm)⟩⟩) rfl gX12_stamps_1.2.2.2.2.1
def K_w_shelf (l : Launch) (G : GG) (kq : Nat) (k8 : Nat) (k9 : Nat) (h0 : Nat) (x1 : Int32) (x2 : Int32) (x3 : Int32) (nw : Nat) (nk : Nat) (mhasKept : Int32) (nt : Nat) (mtaped : Int32) (nr : Nat) (mrowMany : Int32) (mroundOf : Int32) (mroundFrom : Int32) (mouts : Int32) (nm : Nat) (mfromHour : Int32) (mtoHour : Int32) (ns : Nat) (mfrom : Int32) (mto : Int32) (msort : Int32) (misFault : Int32) (mdeep : Int32) (mcoded : Int32) (mlines : Int32) (nl : Nat) (nc : Nat) (nF : Nat) (np : Nat) (ntr : Nat) (nb : Nat) (mbestCost : Int32) (nso : Nat) (nsi : Nat) (nit : Nat) (nsh : Nat) (nsf : Nat) (nss : Nat) (nrc : Nat) (mtraced : Int32) (mdealer : Int32) (mnumber : Int32) (mwhose : Int32) (msize : Int32) (misParted : Int32) (fnw : Nat → Int32) (fnso : Nat → Int32) (fnsi : Nat → Int32) (fnsh : Nat → Int32) (fnsf : Nat → Int32) (fnss : Nat → Int32) : Prop := MI l G yX12_shelf cX12_shelf 6 (some .int) 3 0 0 [.ref h0, .int x1, .int x2, .int x3] [(h0, oX12 nw nk mhasKept nt mtaped nr mrowMany mroundOf mroundFrom mouts nm mfromHour mtoHour ns mfrom mto msort misFault mdeep mcoded mlines nl nc nF np ntr nb mbestCost nso nsi nit nsh nsf nss nrc mtraced mdealer mnumber mwhose msize misParted), (nw, iA G 1662 fnw), (nso, iA G 4 fnso), (nsi, iA G 4 fnsi), (nsh, iA G 4 fnsh), (nsf, iA G 4 fnsf), (nss, iA G 4 fnss)] (fun (r : Int32) (u : (Nat → Int32) × (Nat → Int32) × (Nat → Int32)) => (r = SHX x1 x2 x3 kq k8 k9) ∧ ((SHX x1 x2 x3 kq k8 k9 = 1 → ∃ a9 b9 c9 : Int32, u.1 = upd fnsh x1.toNatClampNeg a9 ∧ u.2.1 = upd fnsf x1.toNatClampNeg b9 ∧ u.2.2 = upd fnss x1.toNatClampNeg c9 ∧ SLV x2 x3 (fnso x3.toNatClampNeg) (fnsi x3.toNatClampNeg) a9 b9 c9) ∧ (¬ SHX x1 x2 x3 kq k8 k9 = 1 → u.1 = fnsh ∧ u.2.1 = fnsf ∧ u.2.2 = fnss))) (fun u : (Nat → Int32) × (Nat → Int32) × (Nat → Int32) => [(h0, oX12 nw nk mhasKept nt mtaped nr mrowMany mroundOf mroundFrom mouts nm mfromHour mtoHour ns mfrom mto msort misFault mdeep mcoded mlines nl nc nF np ntr nb mbestCost nso nsi nit nsh nsf nss nrc mtraced mdealer mnumber mwhose msize misParted), (nw, iA G 1662 fnw), (nso, iA G 4 fnso), (nsi, iA G 4 fnsi), (nsh, iA G 4 u.1), (nsf, iA G 4 u.2.1), (nss, iA G 4 u.2.2)])
set_option maxHeartbeats 4000000 in
set_option maxRecDepth 100000 in
theorem w_shelf (l : Launch) (G : GG) (kq : Nat) (k8 : Nat) (k9 : Nat) (h0 : Nat) (x1 : Int32) (x2 : Int32) (x3 : Int32) (nw : Nat) (nk : Nat) (mhasKept : Int32) (nt : Nat) (mtaped : Int32) (nr : Nat) (mrowMany : Int32) (mroundOf : Int32) (mroundFrom : Int32) (mouts : Int32) (nm : Nat) (mfromHour : Int32) (mtoHour : Int32) (ns : Nat) (mfrom : Int32) (mto : Int32) (msort : Int32) (misFault : Int32) (mdeep : Int32) (mcoded : Int32) (mlines : Int32) (nl : Nat) (nc : Nat) (nF : Nat) (np : Nat) (ntr : Nat) (nb : Nat) (mbestCost : Int32) (nso : Nat) (nsi : Nat) (nit : Nat) (nsh : Nat) (nsf : Nat) (nss : Nat) (nrc : Nat) (mtraced : Int32) (mdealer : Int32) (mnumber : Int32) (mwhose : Int32) (msize : Int32) (misParted : Int32) (fnw : Nat → Int32) (fnso : Nat → Int32) (fnsi : Nat → Int32) (fnsh : Nat → Int32) (fnsf : Nat → Int32) (fnss : Nat → Int32) (ekq : fnw 5 = nI kq) (ek8 : fnw 8 = nI k8) (ek9 : fnw 9 = nI k9) (hkq : kq ≤ 12) (hk8 : k8 ≤ 16) (hk9 : k9 ≤ 12) : K_w_shelf l G kq k8 k9 h0 x1 x2 x3 nw nk mhasKept nt mtaped nr mrowMany mroundOf mroundFrom mouts nm mfromHour mtoHour ns mfrom mto msort misFault mdeep mcoded mlines nl nc nF np ntr nb mbestCost nso nsi nit nsh nsf nss nrc mtraced mdealer mnumber mwhose msize misParted fnw fnso fnsi fnsh fnsf fnss := by
  refine MI.start (by decide +kernel) (Nat.le_of_ble_eq_true rfl) ?_
  intro p e s m below meth c A ls hC hK hP hD hS hA hl
  refine absQ (fun Q0 hQ0 => ?_)
  have hl : lv_has ls 6 [(0, .ref h0), (1, .int x1), (2, .int x2), (3, .int x3)] := hl
  refine Kan8 hC (fun hx hb hr hml hB hown hlocks hnm => ?_)
  refine lv_iload_n hx hb gX12_shelf_0.1 rfl (lv_at2 hl) ?_
  refine lv_if_ne (tgt := 13) hx hb gX12_shelf_0.2.1 (by decide) (fun c_1_6434 => ?_) (fun c_1_6434 => ?_)
  · refine lv_iload_n hx hb gX12_shelf_0.2.2.2.2.2.2.2.1 rfl (lv_at2 hl) ?_
    refine lv_iconst (v := 1) hx hb gX12_shelf_0.2.2.2.2.2.2.2.2.1 (by decide) ?_
    refine lv_icmp_ne (tgt := 28) hx hb gX12_shelf_0.2.2.2.2.2.2.2.2.2 (by decide) (fun c_15_6435 => ?_) (fun c_15_6435 => ?_)
    · refine lv_iload_n hx hb gX12_shelf_1.2.2.2.2.2.1 rfl (lv_at2 hl) ?_
      refine lv_iconst (v := 2) hx hb gX12_shelf_1.2.2.2.2.2.2.1 (by decide) ?_
      refine lv_icmp_ne (tgt := 43) hx hb gX12_shelf_1.2.2.2.2.2.2.2.1 (by decide) (fun c_30_6436 => ?_) (fun c_30_6436 => ?_)
      · refine lv_iload_n hx hb gX12_shelf_2.2.2.2.1 rfl (lv_at2 hl) ?_
        refine lv_iconst (v := 3) hx hb gX12_shelf_2.2.2.2.2.1 (by decide) ?_
        refine lv_icmp_ne (tgt := 55) hx hb gX12_shelf_2.2.2.2.2.2.1 (by decide) (fun c_45_6437 => ?_) (fun c_45_6437 => ?_)
        · refine lv_iconst (v := 1) hx hb gX12_shelf_2.2.2.2.2.2.2.2.2.2 (by decide) ?_
          refine lv_goto (tgt := 60) hx hb gX12_shelf_3.1 (by decide) ?_
          refine lv_istore (lv' := [(4, .int 1), (0, .ref h0), (1, .int x1), (2, .int x2), (3, .int x3)]) hx hb gX12_shelf_3.2.2.1 hl (by decide) rfl (fun ls hl => ?_)
          refine lv_iload_n hx hb gX12_shelf_3.2.2.2.1 rfl (lv_at2 hl) ?_
          refine pS hC hK hl (m_isFour l G x1) si_X12_336 rfl rfl (Nat.le_of_ble_eq_true rfl) rm_3_2_1 ⟨by first | exact Nat.le_of_ble_eq_true rfl | exact Nat.zero_le _, by first | exact Nat.le_of_ble_eq_true rfl | exact Nat.zero_le _⟩ gX12_shelf_3.2.2.2.2.1 (Kors (Keqa fun a6439 => ?_) (Keqa fun a6439 => ?_))
          · refine lv_if_eq (tgt := 83) hx hb gX12_shelf_3.2.2.2.2.2.1 (by decide) (fun c9 => absurd c9 (by decide)) (fun _ => ?_)
            refine lv_iload_n hx hb gX12_shelf_3.2.2.2.2.2.2.1 rfl (lv_at3 hl) ?_
            refine lv_iconst (v := 0) hx hb gX12_shelf_3.2.2.2.2.2.2.2.1 (by decide) ?_
            refine lv_iconst (v := 4) hx hb gX12_shelf_3.2.2.2.2.2.2.2.2.1 (by decide) ?_
            refine pS hC hK hl (m_within l G x2 0 4) si_X12_84 rfl rfl (Nat.le_of_ble_eq_true rfl) rm_3_1_3 ⟨by first | exact Nat.le_of_ble_eq_true rfl | exact Nat.zero_le _, by first | exact Nat.le_of_ble_eq_true rfl | exact Nat.zero_le _⟩ gX12_shelf_3.2.2.2.2.2.2.2.2.2 (Kors (Keqa fun a6441 => ?_) (Keqa fun a6441 => ?_))
            · refine lv_if_eq (tgt := 83) hx hb gX12_shelf_4.1 (by decide) (fun c9 => absurd c9 (by decide)) (fun _ => ?_)
              refine lv_iload hx hb gX12_shelf_4.2.1 (lv_at0 hl) ?_
              refine lv_if_ne (tgt := 85) hx hb gX12_shelf_4.2.2.1 (by decide) (fun _ => ?_) (fun c9 => absurd c9 (by decide))
              obtain ⟨js, hjs, rfl⟩ := Wi_nat (N := 3) (by decide) a6439
              obtain rfl : x2 = 4 := Wi4_4 a6441 c_1_6434 c_15_6435 c_30_6436 c_45_6437
              refine lv_iload_n hx hb gX12_shelf_4.2.2.2.2.2.1 rfl (lv_at3 hl) ?_
              refine lv_iconst (v := 4) hx hb gX12_shelf_4.2.2.2.2.2.2.1 (by decide) ?_
              refine lv_icmp_eq (tgt := 104) hx hb gX12_shelf_4.2.2.2.2.2.2.2.1 (by decide) (fun _ => ?_) (fun c9 => absurd (by decide) c9)
              refine lv_iconst (v := 1) hx hb gX12_shelf_5.2.2.2.2.2.2.1 (by decide) ?_
              refine lv_goto (tgt := 109) hx hb gX12_shelf_5.2.2.2.2.2.2.2.1 (by decide) ?_
              refine lv_istore (lv' := [(5, .int 1), (4, .int 1), (0, .ref h0), (1, .int (nI js)), (2, .int 4), (3, .int x3)]) hx hb gX12_shelf_5.2.2.2.2.2.2.2.2.2 hl (by decide) rfl (fun ls hl => ?_)
              refine lv_aload_n hx hb gX12_shelf_6.1 rfl (lv_at2 hl) ?_
              refine gf_X12_72 hC rfl hK hP 0 rfl rfl gX12_shelf_6.2.1 ?_
              refine lv_iload_n hx hb gX12_shelf_6.2.2.1 rfl (lv_at3 hl) ?_
              refine lv_iload hx hb gX12_shelf_6.2.2.2.1 (lv_at0 hl) ?_
              refine lv_if_eq (tgt := 125) hx hb gX12_shelf_6.2.2.2.2.1 (by decide) (fun c9 => absurd c9 (by decide)) (fun _ => ?_)
              refine lv_iconst (v := 0) hx hb gX12_shelf_6.2.2.2.2.2.1 (by decide) ?_
              refine lv_goto (tgt := 128) hx hb gX12_shelf_6.2.2.2.2.2.2.1 (by decide) ?_
              refine astN hC hK hP hD hS 4 (ws' := [(h0, oX12 nw nk mhasKept nt mtaped nr mrowMany mroundOf mroundFrom mouts nm mfromHour mtoHour ns mfrom mto msort misFault mdeep mcoded mlines nl nc nF np ntr nb mbestCost nso nsi nit nsh nsf nss nrc mtraced mdealer mnumber mwhose msize misParted), (nw, iA G 1662 fnw), (nso, iA G 4 fnso), (nsi, iA G 4 fnsi), (nsh, iA G 4 (upd fnsh js 0)), (nsf, iA G 4 fnsf), (nss, iA G 4 fnss)]) rfl (k := js) (by omega) (Nat.le_of_ble_eq_true rfl) (rfl) gX12_shelf_7.1 (fun H locs hP hD hS => ?_)
              refine lv_aload_n hx hb gX12_shelf_7.2.1 rfl (lv_at2 hl) ?_
              refine gf_X12_75 hC rfl hK hP 0 rfl rfl gX12_shelf_7.2.2.1 ?_
              refine lv_iload_n hx hb gX12_shelf_7.2.2.2.1 rfl (lv_at3 hl) ?_
              refine lv_iload hx hb gX12_shelf_7.2.2.2.2.1 (lv_at0 hl) ?_
              refine lv_if_eq (tgt := 143) hx hb gX12_shelf_7.2.2.2.2.2.1 (by decide) (fun c9 => absurd c9 (by decide)) (fun _ => ?_)
              refine lv_iconst (v := 0) hx hb gX12_shelf_7.2.2.2.2.2.2.1 (by decide) ?_
              refine lv_goto (tgt := 158) hx hb gX12_shelf_7.2.2.2.2.2.2.2.1 (by decide) ?_
              refine astN hC hK hP hD hS 5 (ws' := [(h0, oX12 nw nk mhasKept nt mtaped nr mrowMany mroundOf mroundFrom mouts nm mfromHour mtoHour ns mfrom mto msort misFault mdeep mcoded mlines nl nc nF np ntr nb mbestCost nso nsi nit nsh nsf nss nrc mtraced mdealer mnumber mwhose msize misParted), (nw, iA G 1662 fnw), (nso, iA G 4 fnso), (nsi, iA G 4 fnsi), (nsh, iA G 4 (upd fnsh js 0)), (nsf, iA G 4 (upd fnsf js 0)), (nss, iA G 4 fnss)]) rfl (k := js) (by omega) (Nat.le_of_ble_eq_true rfl) (rfl) gX12_shelf_8.2.2.2.2.2.2.2.1 (fun H locs hP hD hS => ?_)
              refine lv_aload_n hx hb gX12_shelf_8.2.2.2.2.2.2.2.2.1 rfl (lv_at2 hl) ?_
              refine gf_X12_78 hC rfl hK hP 0 rfl rfl gX12_shelf_8.2.2.2.2.2.2.2.2.2 ?_
              refine lv_iload_n hx hb gX12_shelf_9.1 rfl (lv_at3 hl) ?_
              refine lv_iload hx hb gX12_shelf_9.2.1 (lv_at0 hl) ?_
              refine lv_if_ne (tgt := 174) hx hb gX12_shelf_9.2.2.1 (by decide) (fun _ => ?_) (fun c9 => absurd c9 (by decide))
              refine lv_iconst (v := 0) hx hb gX12_shelf_9.2.2.2.2.2.2.1 (by decide) ?_
              refine lv_goto (tgt := 184) hx hb gX12_shelf_9.2.2.2.2.2.2.2.1 (by decide) ?_
              refine astN hC hK hP hD hS 6 (ws' := [(h0, oX12 nw nk mhasKept nt mtaped nr mrowMany mroundOf mroundFrom mouts nm mfromHour mtoHour ns mfrom mto msort misFault mdeep mcoded mlines nl nc nF np ntr nb mbestCost nso nsi nit nsh nsf nss nrc mtraced mdealer mnumber mwhose msize misParted), (nw, iA G 1662 fnw), (nso, iA G 4 fnso), (nsi, iA G 4 fnsi), (nsh, iA G 4 (upd fnsh js 0)), (nsf, iA G 4 (upd fnsf js 0)), (nss, iA G 4 (upd fnss js 0))]) rfl (k := js) (by omega) (Nat.le_of_ble_eq_true rfl) (rfl) gX12_shelf_10.2.2.1 (fun H locs hP hD hS => ?_)
              refine lv_iconst (v := 1) hx hb gX12_shelf_10.2.2.2.1 (by decide) ?_
              refine toQ hQ0 ?_
              exact RI (v := 1) hC hP hD hS [0, 1, 2, 3, 4, 5, 6] (upd fnsh js 0, upd fnsf js 0, upd fnss js 0) rfl rfl (by decide) (⟨(by unfold SHX; first | rfl | (simp only [ifc_t ekq, ifc_t ek8, ifc_t ek9, ifc_t hkq, ifc_t hk8, ifc_t hk9, ifc_f c_1_6434, ifc_f c_15_6435, ifc_f c_30_6436, ifc_f c_45_6437, ifc_t a6439, ifc_t a6441, ifc_t trivial, ifc_f (q := False) (fun h9 => h9), ifc_f (q := (4 : Int32) = 0) (by decide), ifc_f (q := (4 : Int32) = 1) (by decide), ifc_f (q := (4 : Int32) = 2) (by decide), ifc_f (q := (4 : Int32) = 3) (by decide), ifc_t (q := (4 : Int32) = 4) rfl]; done) | (simp only [ifc_t ekq, ifc_t ek8, ifc_t ek9, ifc_t hkq, ifc_t hk8, ifc_t hk9, ifc_f c_1_6434, ifc_f c_15_6435, ifc_f c_30_6436, ifc_f c_45_6437, ifc_t a6439, ifc_t a6441, ifc_t trivial, ifc_f (q := False) (fun h9 => h9), ifc_f (q := (4 : Int32) = 0) (by decide), ifc_f (q := (4 : Int32) = 1) (by decide), ifc_f (q := (4 : Int32) = 2) (by decide), ifc_f (q := (4 : Int32) = 3) (by decide), ifc_t (q := (4 : Int32) = 4) rfl]; rfl)), ⟨fun _ => ⟨0, 0, 0, (by rw [nI_clamp (n := js) (by omega)]; exact ⟨rfl, rfl, rfl, ⟨fun h9 => absurd h9 (by decide), fun _ => rfl, fun h9 => absurd h9 (by decide)⟩⟩)⟩, fun h9 => absurd (by unfold SHX; simp only [ifc_t ekq, ifc_t ek8, ifc_t ek9, ifc_t hkq, ifc_t hk8, ifc_t hk9, ifc_f c_1_6434, ifc_f c_15_6435, ifc_f c_30_6436, ifc_f c_45_6437, ifc_t a6439, ifc_t a6441, ifc_t trivial, ifc_f (q := False) (fun h9 => h9), ifc_f (q := (4 : Int32) = 0) (by decide), ifc_f (q := (4 : Int32) = 1) (by decide), ifc_f (q := (4 : Int32) = 2) (by decide), ifc_f (q := (4 : Int32) = 3) (by decide), ifc_t (q := (4 : Int32) = 4) rfl]) h9⟩⟩) rfl gX12_shelf_10.2.2.2.2
            · refine lv_if_eq (tgt := 83) hx hb gX12_shelf_4.1 (by decide) (fun _ => ?_) (fun c9 => absurd (by decide) c9)
              refine lv_iconst (v := (-1)) hx hb gX12_shelf_4.2.2.2.1 (by decide) ?_
              refine toQ hQ0 ?_
              exact RI (v := (-1)) hC hP hD hS [0, 1, 2, 3, 4, 5, 6] (fnsh, fnsf, fnss) rfl rfl (by decide) (⟨(by unfold SHX; first | rfl | (simp only [ifc_t ekq, ifc_t ek8, ifc_t ek9, ifc_t hkq, ifc_t hk8, ifc_t hk9, ifc_f c_1_6434, ifc_f c_15_6435, ifc_f c_30_6436, ifc_f c_45_6437, ifc_t a6439, ifc_f a6441, ifc_t trivial, ifc_f (q := False) (fun h9 => h9), ifc_f (q := x2 = 4) (fun h9 => a6441 (by rw [h9]; unfold Wi; decide))]; done) | (simp only [ifc_t ekq, ifc_t ek8, ifc_t ek9, ifc_t hkq, ifc_t hk8, ifc_t hk9, ifc_f c_1_6434, ifc_f c_15_6435, ifc_f c_30_6436, ifc_f c_45_6437, ifc_t a6439, ifc_f a6441, ifc_t trivial, ifc_f (q := False) (fun h9 => h9), ifc_f (q := x2 = 4) (fun h9 => a6441 (by rw [h9]; unfold Wi; decide))]; rfl)), ⟨fun h9 => absurd ((show SHX x1 x2 x3 kq k8 k9 = (-1) from by unfold SHX; simp only [ifc_t ekq, ifc_t ek8, ifc_t ek9, ifc_t hkq, ifc_t hk8, ifc_t hk9, ifc_f c_1_6434, ifc_f c_15_6435, ifc_f c_30_6436, ifc_f c_45_6437, ifc_t a6439, ifc_f a6441, ifc_t trivial, ifc_f (q := False) (fun h9 => h9), ifc_f (q := x2 = 4) (fun h9 => a6441 (by rw [h9]; unfold Wi; decide))]).symm.trans h9) (by decide), fun _ => ⟨rfl, rfl, rfl⟩⟩⟩) rfl gX12_shelf_4.2.2.2.2.1
          · refine lv_if_eq (tgt := 83) hx hb gX12_shelf_3.2.2.2.2.2.1 (by decide) (fun _ => ?_) (fun c9 => absurd (by decide) c9)
            refine lv_iconst (v := (-1)) hx hb gX12_shelf_4.2.2.2.1 (by decide) ?_
            refine toQ hQ0 ?_
            exact RI (v := (-1)) hC hP hD hS [0, 1, 2, 3, 4, 5, 6] (fnsh, fnsf, fnss) rfl rfl (by decide) (⟨(by unfold SHX; first | rfl | (simp only [ifc_t ekq, ifc_t ek8, ifc_t ek9, ifc_t hkq, ifc_t hk8, ifc_t hk9, ifc_f c_1_6434, ifc_f c_15_6435, ifc_f c_30_6436, ifc_f c_45_6437, ifc_f a6439, ifc_t trivial, ifc_f (q := False) (fun h9 => h9)]; done) | (simp only [ifc_t ekq, ifc_t ek8, ifc_t ek9, ifc_t hkq, ifc_t hk8, ifc_t hk9, ifc_f c_1_6434, ifc_f c_15_6435, ifc_f c_30_6436, ifc_f c_45_6437, ifc_f a6439, ifc_t trivial, ifc_f (q := False) (fun h9 => h9)]; rfl)), ⟨fun h9 => absurd ((show SHX x1 x2 x3 kq k8 k9 = (-1) from by unfold SHX; simp only [ifc_t ekq, ifc_t ek8, ifc_t ek9, ifc_t hkq, ifc_t hk8, ifc_t hk9, ifc_f c_1_6434, ifc_f c_15_6435, ifc_f c_30_6436, ifc_f c_45_6437, ifc_f a6439, ifc_t trivial, ifc_f (q := False) (fun h9 => h9)]).symm.trans h9) (by decide), fun _ => ⟨rfl, rfl, rfl⟩⟩⟩) rfl gX12_shelf_4.2.2.2.2.1
        · obtain rfl : x2 = 3 := c_45_6437
          refine lv_iload_n hx hb gX12_shelf_2.2.2.2.2.2.2.1 rfl (lv_at3 hl) ?_
          refine pS hC hK hl (m_isFour l G x3) si_X12_336 rfl rfl (Nat.le_of_ble_eq_true rfl) rm_3_2_1 ⟨by first | exact Nat.le_of_ble_eq_true rfl | exact Nat.zero_le _, by first | exact Nat.le_of_ble_eq_true rfl | exact Nat.zero_le _⟩ gX12_shelf_2.2.2.2.2.2.2.2.1 (Kors (Keqa fun a6443 => ?_) (Keqa fun a6443 => ?_))
          · refine lv_if_eq (tgt := 59) hx hb gX12_shelf_2.2.2.2.2.2.2.2.2.1 (by decide) (fun c9 => absurd c9 (by decide)) (fun _ => ?_)
            refine lv_iconst (v := 1) hx hb gX12_shelf_2.2.2.2.2.2.2.2.2.2 (by decide) ?_
            refine lv_goto (tgt := 60) hx hb gX12_shelf_3.1 (by decide) ?_
            refine lv_istore (lv' := [(4, .int 1), (0, .ref h0), (1, .int x1), (2, .int 3), (3, .int x3)]) hx hb gX12_shelf_3.2.2.1 hl (by decide) rfl (fun ls hl => ?_)
            refine lv_iload_n hx hb gX12_shelf_3.2.2.2.1 rfl (lv_at2 hl) ?_
            refine pS hC hK hl (m_isFour l G x1) si_X12_336 rfl rfl (Nat.le_of_ble_eq_true rfl) rm_3_2_1 ⟨by first | exact Nat.le_of_ble_eq_true rfl | exact Nat.zero_le _, by first | exact Nat.le_of_ble_eq_true rfl | exact Nat.zero_le _⟩ gX12_shelf_3.2.2.2.2.1 (Kors (Keqa fun a6445 => ?_) (Keqa fun a6445 => ?_))
            · refine lv_if_eq (tgt := 83) hx hb gX12_shelf_3.2.2.2.2.2.1 (by decide) (fun c9 => absurd c9 (by decide)) (fun _ => ?_)
              refine lv_iload_n hx hb gX12_shelf_3.2.2.2.2.2.2.1 rfl (lv_at3 hl) ?_
              refine lv_iconst (v := 0) hx hb gX12_shelf_3.2.2.2.2.2.2.2.1 (by decide) ?_
              refine lv_iconst (v := 4) hx hb gX12_shelf_3.2.2.2.2.2.2.2.2.1 (by decide) ?_
              refine pS hC hK hl (m_within l G 3 0 4) si_X12_84 rfl rfl (Nat.le_of_ble_eq_true rfl) rm_3_1_3 ⟨by first | exact Nat.le_of_ble_eq_true rfl | exact Nat.zero_le _, by first | exact Nat.le_of_ble_eq_true rfl | exact Nat.zero_le _⟩ gX12_shelf_3.2.2.2.2.2.2.2.2.2 (Kors (Keqa fun a6447 => ?_) (Keqa fun a6447 => ?_))
              · refine lv_if_eq (tgt := 83) hx hb gX12_shelf_4.1 (by decide) (fun c9 => absurd c9 (by decide)) (fun _ => ?_)
                refine lv_iload hx hb gX12_shelf_4.2.1 (lv_at0 hl) ?_
                refine lv_if_ne (tgt := 85) hx hb gX12_shelf_4.2.2.1 (by decide) (fun _ => ?_) (fun c9 => absurd c9 (by decide))
                obtain ⟨js, hjs, rfl⟩ := Wi_nat (N := 3) (by decide) a6445
                refine lv_iload_n hx hb gX12_shelf_4.2.2.2.2.2.1 rfl (lv_at3 hl) ?_
                refine lv_iconst (v := 4) hx hb gX12_shelf_4.2.2.2.2.2.2.1 (by decide) ?_
                refine lv_icmp_eq (tgt := 104) hx hb gX12_shelf_4.2.2.2.2.2.2.2.1 (by decide) (fun c9 => absurd c9 (by decide)) (fun _ => ?_)
                refine lv_iload_n hx hb gX12_shelf_4.2.2.2.2.2.2.2.2.1 rfl (lv_at3 hl) ?_
                refine lv_iconst (v := 3) hx hb gX12_shelf_4.2.2.2.2.2.2.2.2.2 (by decide) ?_
                refine lv_icmp_ne (tgt := 108) hx hb gX12_shelf_5.1 (by decide) (fun c9 => absurd (by decide) c9) (fun _ => ?_)
                obtain ⟨jn, hjn, rfl⟩ := Wi_nat (N := 3) (by decide) a6443
                refine lv_aload_n hx hb gX12_shelf_5.2.1 rfl (lv_at1 hl) ?_
                refine gf_X12_63 hC rfl hK hP 0 rfl rfl gX12_shelf_5.2.2.1 ?_
                refine lv_iload_n hx hb gX12_shelf_5.2.2.2.1 rfl (lv_at4 hl) ?_
                refine aldN hC hK hP 2 rfl (k := jn) (by omega) (Nat.le_of_ble_eq_true rfl) (v := fnso jn) rfl gX12_shelf_5.2.2.2.2.1 ?_
                refine lv_if_ge (tgt := 108) hx hb gX12_shelf_5.2.2.2.2.2.1 (by decide) (fun c_101_6448 => ?_) (fun c_101_6448 => ?_)
                · refine lv_iconst (v := 0) hx hb gX12_shelf_5.2.2.2.2.2.2.2.2.1 (by decide) ?_
                  refine lv_istore (lv' := [(5, .int 0), (4, .int 1), (0, .ref h0), (1, .int (nI js)), (2, .int 3), (3, .int (nI jn))]) hx hb gX12_shelf_5.2.2.2.2.2.2.2.2.2 hl (by decide) rfl (fun ls hl => ?_)
                  refine lv_aload_n hx hb gX12_shelf_6.1 rfl (lv_at2 hl) ?_
                  refine gf_X12_72 hC rfl hK hP 0 rfl rfl gX12_shelf_6.2.1 ?_
                  refine lv_iload_n hx hb gX12_shelf_6.2.2.1 rfl (lv_at3 hl) ?_
                  refine lv_iload hx hb gX12_shelf_6.2.2.2.1 (lv_at0 hl) ?_
                  refine lv_if_eq (tgt := 125) hx hb gX12_shelf_6.2.2.2.2.1 (by decide) (fun _ => ?_) (fun c9 => absurd (by decide) c9)
                  refine lv_iload_n hx hb gX12_shelf_6.2.2.2.2.2.2.2.1 rfl (lv_at4 hl) ?_
                  refine lv_iconst (v := 1) hx hb gX12_shelf_6.2.2.2.2.2.2.2.2.1 (by decide) ?_
                  refine lv_iadd hx hb gX12_shelf_6.2.2.2.2.2.2.2.2.2 ?_
                  refine eqi (x1 := 4) (by decide) ?_
                  refine astN hC hK hP hD hS 4 (ws' := [(h0, oX12 nw nk mhasKept nt mtaped nr mrowMany mroundOf mroundFrom mouts nm mfromHour mtoHour ns mfrom mto msort misFault mdeep mcoded mlines nl nc nF np ntr nb mbestCost nso nsi nit nsh nsf nss nrc mtraced mdealer mnumber mwhose msize misParted), (nw, iA G 1662 fnw), (nso, iA G 4 fnso), (nsi, iA G 4 fnsi), (nsh, iA G 4 (upd fnsh js 4)), (nsf, iA G 4 fnsf), (nss, iA G 4 fnss)]) rfl (k := js) (by omega) (Nat.le_of_ble_eq_true rfl) (rfl) gX12_shelf_7.1 (fun H locs hP hD hS => ?_)
                  refine lv_aload_n hx hb gX12_shelf_7.2.1 rfl (lv_at2 hl) ?_
                  refine gf_X12_75 hC rfl hK hP 0 rfl rfl gX12_shelf_7.2.2.1 ?_
                  refine lv_iload_n hx hb gX12_shelf_7.2.2.2.1 rfl (lv_at3 hl) ?_
                  refine lv_iload hx hb gX12_shelf_7.2.2.2.2.1 (lv_at0 hl) ?_
                  refine lv_if_eq (tgt := 143) hx hb gX12_shelf_7.2.2.2.2.2.1 (by decide) (fun _ => ?_) (fun c9 => absurd (by decide) c9)
                  refine lv_iload_n hx hb gX12_shelf_7.2.2.2.2.2.2.2.2.1 rfl (lv_at4 hl) ?_
                  refine lv_iconst (v := 3) hx hb gX12_shelf_7.2.2.2.2.2.2.2.2.2 (by decide) ?_
                  refine lv_icmp_ne (tgt := 157) hx hb gX12_shelf_8.1 (by decide) (fun c9 => absurd (by decide) c9) (fun _ => ?_)
                  refine lv_aload_n hx hb gX12_shelf_8.2.1 rfl (lv_at2 hl) ?_
                  refine gf_X12_63 hC rfl hK hP 0 rfl rfl gX12_shelf_8.2.2.1 ?_
                  refine lv_iload_n hx hb gX12_shelf_8.2.2.2.1 rfl (lv_at5 hl) ?_
                  refine aldN hC hK hP 2 rfl (k := jn) (by omega) (Nat.le_of_ble_eq_true rfl) (v := fnso jn) rfl gX12_shelf_8.2.2.2.2.1 ?_
                  refine lv_goto (tgt := 158) hx hb gX12_shelf_8.2.2.2.2.2.1 (by decide) ?_
                  refine astN hC hK hP hD hS 5 (ws' := [(h0, oX12 nw nk mhasKept nt mtaped nr mrowMany mroundOf mroundFrom mouts nm mfromHour mtoHour ns mfrom mto msort misFault mdeep mcoded mlines nl nc nF np ntr nb mbestCost nso nsi nit nsh nsf nss nrc mtraced mdealer mnumber mwhose msize misParted), (nw, iA G 1662 fnw), (nso, iA G 4 fnso), (nsi, iA G 4 fnsi), (nsh, iA G 4 (upd fnsh js 4)), (nsf, iA G 4 (upd fnsf js (fnso jn))), (nss, iA G 4 fnss)]) rfl (k := js) (by omega) (Nat.le_of_ble_eq_true rfl) (rfl) gX12_shelf_8.2.2.2.2.2.2.2.1 (fun H locs hP hD hS => ?_)
                  refine lv_aload_n hx hb gX12_shelf_8.2.2.2.2.2.2.2.2.1 rfl (lv_at2 hl) ?_
                  refine gf_X12_78 hC rfl hK hP 0 rfl rfl gX12_shelf_8.2.2.2.2.2.2.2.2.2 ?_
                  refine lv_iload_n hx hb gX12_shelf_9.1 rfl (lv_at3 hl) ?_
                  refine lv_iload hx hb gX12_shelf_9.2.1 (lv_at0 hl) ?_
                  refine lv_if_ne (tgt := 174) hx hb gX12_shelf_9.2.2.1 (by decide) (fun c9 => absurd (by decide) c9) (fun _ => ?_)
                  refine lv_iload_n hx hb gX12_shelf_9.2.2.2.1 rfl (lv_at4 hl) ?_
                  refine lv_iconst (v := 3) hx hb gX12_shelf_9.2.2.2.2.1 (by decide) ?_
                  refine lv_icmp_ge (tgt := 178) hx hb gX12_shelf_9.2.2.2.2.2.1 (by decide) (fun _ => ?_) (fun c9 => absurd (by decide) c9)
                  refine lv_aload_n hx hb gX12_shelf_9.2.2.2.2.2.2.2.2.1 rfl (lv_at2 hl) ?_
                  refine gf_X12_66 hC rfl hK hP 0 rfl rfl gX12_shelf_9.2.2.2.2.2.2.2.2.2 ?_
                  refine lv_iload_n hx hb gX12_shelf_10.1 rfl (lv_at5 hl) ?_
                  refine aldN hC hK hP 3 rfl (k := jn) (by omega) (Nat.le_of_ble_eq_true rfl) (v := fnsi jn) rfl gX12_shelf_10.2.1 ?_
                  refine astN hC hK hP hD hS 6 (ws' := [(h0, oX12 nw nk mhasKept nt mtaped nr mrowMany mroundOf mroundFrom mouts nm mfromHour mtoHour ns mfrom mto msort misFault mdeep mcoded mlines nl nc nF np ntr nb mbestCost nso nsi nit nsh nsf nss nrc mtraced mdealer mnumber mwhose msize misParted), (nw, iA G 1662 fnw), (nso, iA G 4 fnso), (nsi, iA G 4 fnsi), (nsh, iA G 4 (upd fnsh js 4)), (nsf, iA G 4 (upd fnsf js (fnso jn))), (nss, iA G 4 (upd fnss js (fnsi jn)))]) rfl (k := js) (by omega) (Nat.le_of_ble_eq_true rfl) (rfl) gX12_shelf_10.2.2.1 (fun H locs hP hD hS => ?_)
                  refine lv_iconst (v := 1) hx hb gX12_shelf_10.2.2.2.1 (by decide) ?_
                  refine toQ hQ0 ?_
                  exact RI (v := 1) hC hP hD hS [0, 1, 2, 3, 4, 5, 6] (upd fnsh js 4, upd fnsf js (fnso jn), upd fnss js (fnsi jn)) rfl rfl (by decide) (⟨(by unfold SHX; first | rfl | (simp only [ifc_t ekq, ifc_t ek8, ifc_t ek9, ifc_t hkq, ifc_t hk8, ifc_t hk9, ifc_f c_1_6434, ifc_f c_15_6435, ifc_f c_30_6436, ifc_t a6443, ifc_t a6445, ifc_t a6447, ifc_t c_101_6448, ifc_f (q := (fnso jn) < 0) (Int32.not_lt.mpr c_101_6448), ifc_t trivial, ifc_f (q := False) (fun h9 => h9), ifc_f (q := (3 : Int32) = 0) (by decide), ifc_f (q := (3 : Int32) = 1) (by decide), ifc_f (q := (3 : Int32) = 2) (by decide), ifc_t (q := (3 : Int32) = 3) rfl, ifc_f (q := (3 : Int32) = 4) (by decide)]; done) | (simp only [ifc_t ekq, ifc_t ek8, ifc_t ek9, ifc_t hkq, ifc_t hk8, ifc_t hk9, ifc_f c_1_6434, ifc_f c_15_6435, ifc_f c_30_6436, ifc_t a6443, ifc_t a6445, ifc_t a6447, ifc_t c_101_6448, ifc_f (q := (fnso jn) < 0) (Int32.not_lt.mpr c_101_6448), ifc_t trivial, ifc_f (q := False) (fun h9 => h9), ifc_f (q := (3 : Int32) = 0) (by decide), ifc_f (q := (3 : Int32) = 1) (by decide), ifc_f (q := (3 : Int32) = 2) (by decide), ifc_t (q := (3 : Int32) = 3) rfl, ifc_f (q := (3 : Int32) = 4) (by decide)]; rfl)), ⟨fun _ => ⟨4, (fnso jn), (fnsi jn), (by rw [nI_clamp (n := js) (by omega), nI_clamp (n := jn) (by omega)]; exact ⟨rfl, rfl, rfl, ⟨fun _ => ⟨fun h9 => absurd h9 (Int32.not_lt.mpr c_101_6448), fun _ => ⟨rfl, rfl, rfl⟩⟩, fun h9 => absurd h9 (by decide), fun h9 => absurd h9 (by decide)⟩⟩)⟩, fun h9 => absurd (by unfold SHX; simp only [ifc_t ekq, ifc_t ek8, ifc_t ek9, ifc_t hkq, ifc_t hk8, ifc_t hk9, ifc_f c_1_6434, ifc_f c_15_6435, ifc_f c_30_6436, ifc_t a6443, ifc_t a6445, ifc_t a6447, ifc_t c_101_6448, ifc_f (q := (fnso jn) < 0) (Int32.not_lt.mpr c_101_6448), ifc_t trivial, ifc_f (q := False) (fun h9 => h9), ifc_f (q := (3 : Int32) = 0) (by decide), ifc_f (q := (3 : Int32) = 1) (by decide), ifc_f (q := (3 : Int32) = 2) (by decide), ifc_t (q := (3 : Int32) = 3) rfl, ifc_f (q := (3 : Int32) = 4) (by decide)]) h9⟩⟩) rfl gX12_shelf_10.2.2.2.2
                · refine lv_iconst (v := 1) hx hb gX12_shelf_5.2.2.2.2.2.2.1 (by decide) ?_
                  refine lv_goto (tgt := 109) hx hb gX12_shelf_5.2.2.2.2.2.2.2.1 (by decide) ?_
                  refine lv_istore (lv' := [(5, .int 1), (4, .int 1), (0, .ref h0), (1, .int (nI js)), (2, .int 3), (3, .int (nI jn))]) hx hb gX12_shelf_5.2.2.2.2.2.2.2.2.2 hl (by decide) rfl (fun ls hl => ?_)
                  refine lv_aload_n hx hb gX12_shelf_6.1 rfl (lv_at2 hl) ?_
                  refine gf_X12_72 hC rfl hK hP 0 rfl rfl gX12_shelf_6.2.1 ?_
                  refine lv_iload_n hx hb gX12_shelf_6.2.2.1 rfl (lv_at3 hl) ?_
                  refine lv_iload hx hb gX12_shelf_6.2.2.2.1 (lv_at0 hl) ?_
                  refine lv_if_eq (tgt := 125) hx hb gX12_shelf_6.2.2.2.2.1 (by decide) (fun c9 => absurd c9 (by decide)) (fun _ => ?_)
                  refine lv_iconst (v := 0) hx hb gX12_shelf_6.2.2.2.2.2.1 (by decide) ?_
                  refine lv_goto (tgt := 128) hx hb gX12_shelf_6.2.2.2.2.2.2.1 (by decide) ?_
                  refine astN hC hK hP hD hS 4 (ws' := [(h0, oX12 nw nk mhasKept nt mtaped nr mrowMany mroundOf mroundFrom mouts nm mfromHour mtoHour ns mfrom mto msort misFault mdeep mcoded mlines nl nc nF np ntr nb mbestCost nso nsi nit nsh nsf nss nrc mtraced mdealer mnumber mwhose msize misParted), (nw, iA G 1662 fnw), (nso, iA G 4 fnso), (nsi, iA G 4 fnsi), (nsh, iA G 4 (upd fnsh js 0)), (nsf, iA G 4 fnsf), (nss, iA G 4 fnss)]) rfl (k := js) (by omega) (Nat.le_of_ble_eq_true rfl) (rfl) gX12_shelf_7.1 (fun H locs hP hD hS => ?_)
                  refine lv_aload_n hx hb gX12_shelf_7.2.1 rfl (lv_at2 hl) ?_
                  refine gf_X12_75 hC rfl hK hP 0 rfl rfl gX12_shelf_7.2.2.1 ?_
                  refine lv_iload_n hx hb gX12_shelf_7.2.2.2.1 rfl (lv_at3 hl) ?_
                  refine lv_iload hx hb gX12_shelf_7.2.2.2.2.1 (lv_at0 hl) ?_
                  refine lv_if_eq (tgt := 143) hx hb gX12_shelf_7.2.2.2.2.2.1 (by decide) (fun c9 => absurd c9 (by decide)) (fun _ => ?_)
                  refine lv_iconst (v := 0) hx hb gX12_shelf_7.2.2.2.2.2.2.1 (by decide) ?_
                  refine lv_goto (tgt := 158) hx hb gX12_shelf_7.2.2.2.2.2.2.2.1 (by decide) ?_
                  refine astN hC hK hP hD hS 5 (ws' := [(h0, oX12 nw nk mhasKept nt mtaped nr mrowMany mroundOf mroundFrom mouts nm mfromHour mtoHour ns mfrom mto msort misFault mdeep mcoded mlines nl nc nF np ntr nb mbestCost nso nsi nit nsh nsf nss nrc mtraced mdealer mnumber mwhose msize misParted), (nw, iA G 1662 fnw), (nso, iA G 4 fnso), (nsi, iA G 4 fnsi), (nsh, iA G 4 (upd fnsh js 0)), (nsf, iA G 4 (upd fnsf js 0)), (nss, iA G 4 fnss)]) rfl (k := js) (by omega) (Nat.le_of_ble_eq_true rfl) (rfl) gX12_shelf_8.2.2.2.2.2.2.2.1 (fun H locs hP hD hS => ?_)
                  refine lv_aload_n hx hb gX12_shelf_8.2.2.2.2.2.2.2.2.1 rfl (lv_at2 hl) ?_
                  refine gf_X12_78 hC rfl hK hP 0 rfl rfl gX12_shelf_8.2.2.2.2.2.2.2.2.2 ?_
                  refine lv_iload_n hx hb gX12_shelf_9.1 rfl (lv_at3 hl) ?_
                  refine lv_iload hx hb gX12_shelf_9.2.1 (lv_at0 hl) ?_
                  refine lv_if_ne (tgt := 174) hx hb gX12_shelf_9.2.2.1 (by decide) (fun _ => ?_) (fun c9 => absurd c9 (by decide))
                  refine lv_iconst (v := 0) hx hb gX12_shelf_9.2.2.2.2.2.2.1 (by decide) ?_
                  refine lv_goto (tgt := 184) hx hb gX12_shelf_9.2.2.2.2.2.2.2.1 (by decide) ?_
                  refine astN hC hK hP hD hS 6 (ws' := [(h0, oX12 nw nk mhasKept nt mtaped nr mrowMany mroundOf mroundFrom mouts nm mfromHour mtoHour ns mfrom mto msort misFault mdeep mcoded mlines nl nc nF np ntr nb mbestCost nso nsi nit nsh nsf nss nrc mtraced mdealer mnumber mwhose msize misParted), (nw, iA G 1662 fnw), (nso, iA G 4 fnso), (nsi, iA G 4 fnsi), (nsh, iA G 4 (upd fnsh js 0)), (nsf, iA G 4 (upd fnsf js 0)), (nss, iA G 4 (upd fnss js 0))]) rfl (k := js) (by omega) (Nat.le_of_ble_eq_true rfl) (rfl) gX12_shelf_10.2.2.1 (fun H locs hP hD hS => ?_)
                  refine lv_iconst (v := 1) hx hb gX12_shelf_10.2.2.2.1 (by decide) ?_
                  refine toQ hQ0 ?_
                  exact RI (v := 1) hC hP hD hS [0, 1, 2, 3, 4, 5, 6] (upd fnsh js 0, upd fnsf js 0, upd fnss js 0) rfl rfl (by decide) (⟨(by unfold SHX; first | rfl | (simp only [ifc_t ekq, ifc_t ek8, ifc_t ek9, ifc_t hkq, ifc_t hk8, ifc_t hk9, ifc_f c_1_6434, ifc_f c_15_6435, ifc_f c_30_6436, ifc_t a6443, ifc_t a6445, ifc_t a6447, ifc_f c_101_6448, ifc_t (q := (fnso jn) < 0) (Int32.not_le.mp c_101_6448), ifc_t trivial, ifc_f (q := False) (fun h9 => h9), ifc_f (q := (3 : Int32) = 0) (by decide), ifc_f (q := (3 : Int32) = 1) (by decide), ifc_f (q := (3 : Int32) = 2) (by decide), ifc_t (q := (3 : Int32) = 3) rfl, ifc_f (q := (3 : Int32) = 4) (by decide)]; done) | (simp only [ifc_t ekq, ifc_t ek8, ifc_t ek9, ifc_t hkq, ifc_t hk8, ifc_t hk9, ifc_f c_1_6434, ifc_f c_15_6435, ifc_f c_30_6436, ifc_t a6443, ifc_t a6445, ifc_t a6447, ifc_f c_101_6448, ifc_t (q := (fnso jn) < 0) (Int32.not_le.mp c_101_6448), ifc_t trivial, ifc_f (q := False) (fun h9 => h9), ifc_f (q := (3 : Int32) = 0) (by decide), ifc_f (q := (3 : Int32) = 1) (by decide), ifc_f (q := (3 : Int32) = 2) (by decide), ifc_t (q := (3 : Int32) = 3) rfl, ifc_f (q := (3 : Int32) = 4) (by decide)]; rfl)), ⟨fun _ => ⟨0, 0, 0, (by rw [nI_clamp (n := js) (by omega), nI_clamp (n := jn) (by omega)]; exact ⟨rfl, rfl, rfl, ⟨fun _ => ⟨fun _ => rfl, fun h9 => absurd (Int32.not_le.mp c_101_6448) h9⟩, fun h9 => absurd h9 (by decide), fun h9 => absurd h9 (by decide)⟩⟩)⟩, fun h9 => absurd (by unfold SHX; simp only [ifc_t ekq, ifc_t ek8, ifc_t ek9, ifc_t hkq, ifc_t hk8, ifc_t hk9, ifc_f c_1_6434, ifc_f c_15_6435, ifc_f c_30_6436, ifc_t a6443, ifc_t a6445, ifc_t a6447, ifc_f c_101_6448, ifc_t (q := (fnso jn) < 0) (Int32.not_le.mp c_101_6448), ifc_t trivial, ifc_f (q := False) (fun h9 => h9), ifc_f (q := (3 : Int32) = 0) (by decide), ifc_f (q := (3 : Int32) = 1) (by decide), ifc_f (q := (3 : Int32) = 2) (by decide), ifc_t (q := (3 : Int32) = 3) rfl, ifc_f (q := (3 : Int32) = 4) (by decide)]) h9⟩⟩) rfl gX12_shelf_10.2.2.2.2
              · exact absurd (by unfold Wi; decide) a6447
            · refine lv_if_eq (tgt := 83) hx hb gX12_shelf_3.2.2.2.2.2.1 (by decide) (fun _ => ?_) (fun c9 => absurd (by decide) c9)
              refine lv_iconst (v := (-1)) hx hb gX12_shelf_4.2.2.2.1 (by decide) ?_
              refine toQ hQ0 ?_
              exact RI (v := (-1)) hC hP hD hS [0, 1, 2, 3, 4, 5, 6] (fnsh, fnsf, fnss) rfl rfl (by decide) (⟨(by unfold SHX; first | rfl | (simp only [ifc_t ekq, ifc_t ek8, ifc_t ek9, ifc_t hkq, ifc_t hk8, ifc_t hk9, ifc_f c_1_6434, ifc_f c_15_6435, ifc_f c_30_6436, ifc_t a6443, ifc_f a6445, ifc_t trivial, ifc_f (q := False) (fun h9 => h9), ifc_f (q := (3 : Int32) = 0) (by decide), ifc_f (q := (3 : Int32) = 1) (by decide), ifc_f (q := (3 : Int32) = 2) (by decide), ifc_t (q := (3 : Int32) = 3) rfl, ifc_f (q := (3 : Int32) = 4) (by decide)]; done) | (simp only [ifc_t ekq, ifc_t ek8, ifc_t ek9, ifc_t hkq, ifc_t hk8, ifc_t hk9, ifc_f c_1_6434, ifc_f c_15_6435, ifc_f c_30_6436, ifc_t a6443, ifc_f a6445, ifc_t trivial, ifc_f (q := False) (fun h9 => h9), ifc_f (q := (3 : Int32) = 0) (by decide), ifc_f (q := (3 : Int32) = 1) (by decide), ifc_f (q := (3 : Int32) = 2) (by decide), ifc_t (q := (3 : Int32) = 3) rfl, ifc_f (q := (3 : Int32) = 4) (by decide)]; rfl)), ⟨fun h9 => absurd ((show SHX x1 3 x3 kq k8 k9 = (-1) from by unfold SHX; simp only [ifc_t ekq, ifc_t ek8, ifc_t ek9, ifc_t hkq, ifc_t hk8, ifc_t hk9, ifc_f c_1_6434, ifc_f c_15_6435, ifc_f c_30_6436, ifc_t a6443, ifc_f a6445, ifc_t trivial, ifc_f (q := False) (fun h9 => h9), ifc_f (q := (3 : Int32) = 0) (by decide), ifc_f (q := (3 : Int32) = 1) (by decide), ifc_f (q := (3 : Int32) = 2) (by decide), ifc_t (q := (3 : Int32) = 3) rfl, ifc_f (q := (3 : Int32) = 4) (by decide)]).symm.trans h9) (by decide), fun _ => ⟨rfl, rfl, rfl⟩⟩⟩) rfl gX12_shelf_4.2.2.2.2.1
          · refine lv_if_eq (tgt := 59) hx hb gX12_shelf_2.2.2.2.2.2.2.2.2.1 (by decide) (fun _ => ?_) (fun c9 => absurd (by decide) c9)
            refine lv_iconst (v := 0) hx hb gX12_shelf_3.2.1 (by decide) ?_
            refine lv_istore (lv' := [(4, .int 0), (0, .ref h0), (1, .int x1), (2, .int 3), (3, .int x3)]) hx hb gX12_shelf_3.2.2.1 hl (by decide) rfl (fun ls hl => ?_)
            refine lv_iload_n hx hb gX12_shelf_3.2.2.2.1 rfl (lv_at2 hl) ?_
            refine pS hC hK hl (m_isFour l G x1) si_X12_336 rfl rfl (Nat.le_of_ble_eq_true rfl) rm_3_2_1 ⟨by first | exact Nat.le_of_ble_eq_true rfl | exact Nat.zero_le _, by first | exact Nat.le_of_ble_eq_true rfl | exact Nat.zero_le _⟩ gX12_shelf_3.2.2.2.2.1 (Kors (Keqa fun a6450 => ?_) (Keqa fun a6450 => ?_))
            · refine lv_if_eq (tgt := 83) hx hb gX12_shelf_3.2.2.2.2.2.1 (by decide) (fun c9 => absurd c9 (by decide)) (fun _ => ?_)
              refine lv_iload_n hx hb gX12_shelf_3.2.2.2.2.2.2.1 rfl (lv_at3 hl) ?_
              refine lv_iconst (v := 0) hx hb gX12_shelf_3.2.2.2.2.2.2.2.1 (by decide) ?_
              refine lv_iconst (v := 4) hx hb gX12_shelf_3.2.2.2.2.2.2.2.2.1 (by decide) ?_
              refine pS hC hK hl (m_within l G 3 0 4) si_X12_84 rfl rfl (Nat.le_of_ble_eq_true rfl) rm_3_1_3 ⟨by first | exact Nat.le_of_ble_eq_true rfl | exact Nat.zero_le _, by first | exact Nat.le_of_ble_eq_true rfl | exact Nat.zero_le _⟩ gX12_shelf_3.2.2.2.2.2.2.2.2.2 (Kors (Keqa fun a6452 => ?_) (Keqa fun a6452 => ?_))
              · refine lv_if_eq (tgt := 83) hx hb gX12_shelf_4.1 (by decide) (fun c9 => absurd c9 (by decide)) (fun _ => ?_)
                refine lv_iload hx hb gX12_shelf_4.2.1 (lv_at0 hl) ?_
                refine lv_if_ne (tgt := 85) hx hb gX12_shelf_4.2.2.1 (by decide) (fun c9 => absurd (by decide) c9) (fun _ => ?_)
                refine lv_iconst (v := (-1)) hx hb gX12_shelf_4.2.2.2.1 (by decide) ?_
                refine toQ hQ0 ?_
                exact RI (v := (-1)) hC hP hD hS [0, 1, 2, 3, 4, 5, 6] (fnsh, fnsf, fnss) rfl rfl (by decide) (⟨(by unfold SHX; first | rfl | (simp only [ifc_t ekq, ifc_t ek8, ifc_t ek9, ifc_t hkq, ifc_t hk8, ifc_t hk9, ifc_f c_1_6434, ifc_f c_15_6435, ifc_f c_30_6436, ifc_f a6443, ifc_t a6450, ifc_t a6452, ifc_t trivial, ifc_f (q := False) (fun h9 => h9), ifc_f (q := (3 : Int32) = 0) (by decide), ifc_f (q := (3 : Int32) = 1) (by decide), ifc_f (q := (3 : Int32) = 2) (by decide), ifc_t (q := (3 : Int32) = 3) rfl, ifc_f (q := (3 : Int32) = 4) (by decide)]; done) | (simp only [ifc_t ekq, ifc_t ek8, ifc_t ek9, ifc_t hkq, ifc_t hk8, ifc_t hk9, ifc_f c_1_6434, ifc_f c_15_6435, ifc_f c_30_6436, ifc_f a6443, ifc_t a6450, ifc_t a6452, ifc_t trivial, ifc_f (q := False) (fun h9 => h9), ifc_f (q := (3 : Int32) = 0) (by decide), ifc_f (q := (3 : Int32) = 1) (by decide), ifc_f (q := (3 : Int32) = 2) (by decide), ifc_t (q := (3 : Int32) = 3) rfl, ifc_f (q := (3 : Int32) = 4) (by decide)]; rfl)), ⟨fun h9 => absurd ((show SHX x1 3 x3 kq k8 k9 = (-1) from by unfold SHX; simp only [ifc_t ekq, ifc_t ek8, ifc_t ek9, ifc_t hkq, ifc_t hk8, ifc_t hk9, ifc_f c_1_6434, ifc_f c_15_6435, ifc_f c_30_6436, ifc_f a6443, ifc_t a6450, ifc_t a6452, ifc_t trivial, ifc_f (q := False) (fun h9 => h9), ifc_f (q := (3 : Int32) = 0) (by decide), ifc_f (q := (3 : Int32) = 1) (by decide), ifc_f (q := (3 : Int32) = 2) (by decide), ifc_t (q := (3 : Int32) = 3) rfl, ifc_f (q := (3 : Int32) = 4) (by decide)]).symm.trans h9) (by decide), fun _ => ⟨rfl, rfl, rfl⟩⟩⟩) rfl gX12_shelf_4.2.2.2.2.1
              · exact absurd (by unfold Wi; decide) a6452
            · refine lv_if_eq (tgt := 83) hx hb gX12_shelf_3.2.2.2.2.2.1 (by decide) (fun _ => ?_) (fun c9 => absurd (by decide) c9)
              refine lv_iconst (v := (-1)) hx hb gX12_shelf_4.2.2.2.1 (by decide) ?_
              refine toQ hQ0 ?_
              exact RI (v := (-1)) hC hP hD hS [0, 1, 2, 3, 4, 5, 6] (fnsh, fnsf, fnss) rfl rfl (by decide) (⟨(by unfold SHX; first | rfl | (simp only [ifc_t ekq, ifc_t ek8, ifc_t ek9, ifc_t hkq, ifc_t hk8, ifc_t hk9, ifc_f c_1_6434, ifc_f c_15_6435, ifc_f c_30_6436, ifc_f a6443, ifc_f a6450, ifc_t trivial, ifc_f (q := False) (fun h9 => h9), ifc_f (q := (3 : Int32) = 0) (by decide), ifc_f (q := (3 : Int32) = 1) (by decide), ifc_f (q := (3 : Int32) = 2) (by decide), ifc_t (q := (3 : Int32) = 3) rfl, ifc_f (q := (3 : Int32) = 4) (by decide)]; done) | (simp only [ifc_t ekq, ifc_t ek8, ifc_t ek9, ifc_t hkq, ifc_t hk8, ifc_t hk9, ifc_f c_1_6434, ifc_f c_15_6435, ifc_f c_30_6436, ifc_f a6443, ifc_f a6450, ifc_t trivial, ifc_f (q := False) (fun h9 => h9), ifc_f (q := (3 : Int32) = 0) (by decide), ifc_f (q := (3 : Int32) = 1) (by decide), ifc_f (q := (3 : Int32) = 2) (by decide), ifc_t (q := (3 : Int32) = 3) rfl, ifc_f (q := (3 : Int32) = 4) (by decide)]; rfl)), ⟨fun h9 => absurd ((show SHX x1 3 x3 kq k8 k9 = (-1) from by unfold SHX; simp only [ifc_t ekq, ifc_t ek8, ifc_t ek9, ifc_t hkq, ifc_t hk8, ifc_t hk9, ifc_f c_1_6434, ifc_f c_15_6435, ifc_f c_30_6436, ifc_f a6443, ifc_f a6450, ifc_t trivial, ifc_f (q := False) (fun h9 => h9), ifc_f (q := (3 : Int32) = 0) (by decide), ifc_f (q := (3 : Int32) = 1) (by decide), ifc_f (q := (3 : Int32) = 2) (by decide), ifc_t (q := (3 : Int32) = 3) rfl, ifc_f (q := (3 : Int32) = 4) (by decide)]).symm.trans h9) (by decide), fun _ => ⟨rfl, rfl, rfl⟩⟩⟩) rfl gX12_shelf_4.2.2.2.2.1
      · obtain rfl : x2 = 2 := c_30_6436
        refine lv_aload_n hx hb gX12_shelf_1.2.2.2.2.2.2.2.2.1 rfl (lv_at0 hl) ?_
        refine lv_iload_n hx hb gX12_shelf_1.2.2.2.2.2.2.2.2.2 rfl (lv_at3 hl) ?_
        refine lv_bipush (v := 9) hx hb gX12_shelf_2.1 (by decide) ?_
        refine pV hC hK hl hP hD (m_is l G k9 h0 x3 9 nw nk mhasKept nt mtaped nr mrowMany mroundOf mroundFrom mouts nm mfromHour mtoHour ns mfrom mto msort misFault mdeep mcoded mlines nl nc nF np ntr nb mbestCost nso nsi nit nsh nsf nss nrc mtraced mdealer mnumber mwhose msize misParted fnw (by omega) (ek9) (by omega)) si_X12_120 [0, 1] sm_0_1 fm_0_1 nd_0_1 rfl rfl rfl rfl rfl (Nat.le_of_ble_eq_true rfl) rm_3_2_3 ⟨by first | exact Nat.le_of_ble_eq_true rfl | exact Nat.zero_le _, by first | exact Nat.le_of_ble_eq_true rfl | exact Nat.zero_le _⟩ gX12_shelf_2.2.1 (Kors (Keqa fun a6454 => ?_) (Keqa fun a6454 => ?_))
        · refine lv_goto (tgt := 60) hx hb gX12_shelf_2.2.2.1 (by decide) ?_
          refine lv_istore (lv' := [(4, .int 1), (0, .ref h0), (1, .int x1), (2, .int 2), (3, .int x3)]) hx hb gX12_shelf_3.2.2.1 hl (by decide) rfl (fun ls hl => ?_)
          refine lv_iload_n hx hb gX12_shelf_3.2.2.2.1 rfl (lv_at2 hl) ?_
          refine pS hC hK hl (m_isFour l G x1) si_X12_336 rfl rfl (Nat.le_of_ble_eq_true rfl) rm_3_2_1 ⟨by first | exact Nat.le_of_ble_eq_true rfl | exact Nat.zero_le _, by first | exact Nat.le_of_ble_eq_true rfl | exact Nat.zero_le _⟩ gX12_shelf_3.2.2.2.2.1 (Kors (Keqa fun a6456 => ?_) (Keqa fun a6456 => ?_))
          · refine lv_if_eq (tgt := 83) hx hb gX12_shelf_3.2.2.2.2.2.1 (by decide) (fun c9 => absurd c9 (by decide)) (fun _ => ?_)
            refine lv_iload_n hx hb gX12_shelf_3.2.2.2.2.2.2.1 rfl (lv_at3 hl) ?_
            refine lv_iconst (v := 0) hx hb gX12_shelf_3.2.2.2.2.2.2.2.1 (by decide) ?_
            refine lv_iconst (v := 4) hx hb gX12_shelf_3.2.2.2.2.2.2.2.2.1 (by decide) ?_
            refine pS hC hK hl (m_within l G 2 0 4) si_X12_84 rfl rfl (Nat.le_of_ble_eq_true rfl) rm_3_1_3 ⟨by first | exact Nat.le_of_ble_eq_true rfl | exact Nat.zero_le _, by first | exact Nat.le_of_ble_eq_true rfl | exact Nat.zero_le _⟩ gX12_shelf_3.2.2.2.2.2.2.2.2.2 (Kors (Keqa fun a6458 => ?_) (Keqa fun a6458 => ?_))
            · refine lv_if_eq (tgt := 83) hx hb gX12_shelf_4.1 (by decide) (fun c9 => absurd c9 (by decide)) (fun _ => ?_)
              refine lv_iload hx hb gX12_shelf_4.2.1 (lv_at0 hl) ?_
              refine lv_if_ne (tgt := 85) hx hb gX12_shelf_4.2.2.1 (by decide) (fun _ => ?_) (fun c9 => absurd c9 (by decide))
              obtain ⟨js, hjs, rfl⟩ := Wi_nat (N := 3) (by decide) a6456
              refine lv_iload_n hx hb gX12_shelf_4.2.2.2.2.2.1 rfl (lv_at3 hl) ?_
              refine lv_iconst (v := 4) hx hb gX12_shelf_4.2.2.2.2.2.2.1 (by decide) ?_
              refine lv_icmp_eq (tgt := 104) hx hb gX12_shelf_4.2.2.2.2.2.2.2.1 (by decide) (fun c9 => absurd c9 (by decide)) (fun _ => ?_)
              refine lv_iload_n hx hb gX12_shelf_4.2.2.2.2.2.2.2.2.1 rfl (lv_at3 hl) ?_
              refine lv_iconst (v := 3) hx hb gX12_shelf_4.2.2.2.2.2.2.2.2.2 (by decide) ?_
              refine lv_icmp_ne (tgt := 108) hx hb gX12_shelf_5.1 (by decide) (fun _ => ?_) (fun c9 => absurd c9 (by decide))
              refine lv_iconst (v := 0) hx hb gX12_shelf_5.2.2.2.2.2.2.2.2.1 (by decide) ?_
              refine lv_istore (lv' := [(5, .int 0), (4, .int 1), (0, .ref h0), (1, .int (nI js)), (2, .int 2), (3, .int x3)]) hx hb gX12_shelf_5.2.2.2.2.2.2.2.2.2 hl (by decide) rfl (fun ls hl => ?_)
              refine lv_aload_n hx hb gX12_shelf_6.1 rfl (lv_at2 hl) ?_
              refine gf_X12_72 hC rfl hK hP 0 rfl rfl gX12_shelf_6.2.1 ?_
              refine lv_iload_n hx hb gX12_shelf_6.2.2.1 rfl (lv_at3 hl) ?_
              refine lv_iload hx hb gX12_shelf_6.2.2.2.1 (lv_at0 hl) ?_
              refine lv_if_eq (tgt := 125) hx hb gX12_shelf_6.2.2.2.2.1 (by decide) (fun _ => ?_) (fun c9 => absurd (by decide) c9)
              refine lv_iload_n hx hb gX12_shelf_6.2.2.2.2.2.2.2.1 rfl (lv_at4 hl) ?_
              refine lv_iconst (v := 1) hx hb gX12_shelf_6.2.2.2.2.2.2.2.2.1 (by decide) ?_
              refine lv_iadd hx hb gX12_shelf_6.2.2.2.2.2.2.2.2.2 ?_
              refine eqi (x1 := 3) (by decide) ?_
              refine astN hC hK hP hD hS 4 (ws' := [(h0, oX12 nw nk mhasKept nt mtaped nr mrowMany mroundOf mroundFrom mouts nm mfromHour mtoHour ns mfrom mto msort misFault mdeep mcoded mlines nl nc nF np ntr nb mbestCost nso nsi nit nsh nsf nss nrc mtraced mdealer mnumber mwhose msize misParted), (nw, iA G 1662 fnw), (nso, iA G 4 fnso), (nsi, iA G 4 fnsi), (nsh, iA G 4 (upd fnsh js 3)), (nsf, iA G 4 fnsf), (nss, iA G 4 fnss)]) rfl (k := js) (by omega) (Nat.le_of_ble_eq_true rfl) (rfl) gX12_shelf_7.1 (fun H locs hP hD hS => ?_)
              refine lv_aload_n hx hb gX12_shelf_7.2.1 rfl (lv_at2 hl) ?_
              refine gf_X12_75 hC rfl hK hP 0 rfl rfl gX12_shelf_7.2.2.1 ?_
              refine lv_iload_n hx hb gX12_shelf_7.2.2.2.1 rfl (lv_at3 hl) ?_
              refine lv_iload hx hb gX12_shelf_7.2.2.2.2.1 (lv_at0 hl) ?_
              refine lv_if_eq (tgt := 143) hx hb gX12_shelf_7.2.2.2.2.2.1 (by decide) (fun _ => ?_) (fun c9 => absurd (by decide) c9)
              refine lv_iload_n hx hb gX12_shelf_7.2.2.2.2.2.2.2.2.1 rfl (lv_at4 hl) ?_
              refine lv_iconst (v := 3) hx hb gX12_shelf_7.2.2.2.2.2.2.2.2.2 (by decide) ?_
              refine lv_icmp_ne (tgt := 157) hx hb gX12_shelf_8.1 (by decide) (fun _ => ?_) (fun c9 => absurd c9 (by decide))
              refine lv_iload_n hx hb gX12_shelf_8.2.2.2.2.2.2.1 rfl (lv_at5 hl) ?_
              refine astN hC hK hP hD hS 5 (ws' := [(h0, oX12 nw nk mhasKept nt mtaped nr mrowMany mroundOf mroundFrom mouts nm mfromHour mtoHour ns mfrom mto msort misFault mdeep mcoded mlines nl nc nF np ntr nb mbestCost nso nsi nit nsh nsf nss nrc mtraced mdealer mnumber mwhose msize misParted), (nw, iA G 1662 fnw), (nso, iA G 4 fnso), (nsi, iA G 4 fnsi), (nsh, iA G 4 (upd fnsh js 3)), (nsf, iA G 4 (upd fnsf js x3)), (nss, iA G 4 fnss)]) rfl (k := js) (by omega) (Nat.le_of_ble_eq_true rfl) (rfl) gX12_shelf_8.2.2.2.2.2.2.2.1 (fun H locs hP hD hS => ?_)
              refine lv_aload_n hx hb gX12_shelf_8.2.2.2.2.2.2.2.2.1 rfl (lv_at2 hl) ?_
              refine gf_X12_78 hC rfl hK hP 0 rfl rfl gX12_shelf_8.2.2.2.2.2.2.2.2.2 ?_
              refine lv_iload_n hx hb gX12_shelf_9.1 rfl (lv_at3 hl) ?_
              refine lv_iload hx hb gX12_shelf_9.2.1 (lv_at0 hl) ?_
              refine lv_if_ne (tgt := 174) hx hb gX12_shelf_9.2.2.1 (by decide) (fun c9 => absurd (by decide) c9) (fun _ => ?_)
              refine lv_iload_n hx hb gX12_shelf_9.2.2.2.1 rfl (lv_at4 hl) ?_
              refine lv_iconst (v := 3) hx hb gX12_shelf_9.2.2.2.2.1 (by decide) ?_
              refine lv_icmp_ge (tgt := 178) hx hb gX12_shelf_9.2.2.2.2.2.1 (by decide) (fun c9 => absurd c9 (by decide)) (fun _ => ?_)
              refine lv_iconst (v := 0) hx hb gX12_shelf_9.2.2.2.2.2.2.1 (by decide) ?_
              refine lv_goto (tgt := 184) hx hb gX12_shelf_9.2.2.2.2.2.2.2.1 (by decide) ?_
              refine astN hC hK hP hD hS 6 (ws' := [(h0, oX12 nw nk mhasKept nt mtaped nr mrowMany mroundOf mroundFrom mouts nm mfromHour mtoHour ns mfrom mto msort misFault mdeep mcoded mlines nl nc nF np ntr nb mbestCost nso nsi nit nsh nsf nss nrc mtraced mdealer mnumber mwhose msize misParted), (nw, iA G 1662 fnw), (nso, iA G 4 fnso), (nsi, iA G 4 fnsi), (nsh, iA G 4 (upd fnsh js 3)), (nsf, iA G 4 (upd fnsf js x3)), (nss, iA G 4 (upd fnss js 0))]) rfl (k := js) (by omega) (Nat.le_of_ble_eq_true rfl) (rfl) gX12_shelf_10.2.2.1 (fun H locs hP hD hS => ?_)
              refine lv_iconst (v := 1) hx hb gX12_shelf_10.2.2.2.1 (by decide) ?_
              refine toQ hQ0 ?_
              exact RI (v := 1) hC hP hD hS [0, 1, 2, 3, 4, 5, 6] (upd fnsh js 3, upd fnsf js x3, upd fnss js 0) rfl rfl (by decide) (⟨(by unfold SHX; first | rfl | (simp only [ifc_t ekq, ifc_t ek8, ifc_t ek9, ifc_t hkq, ifc_t hk8, ifc_t hk9, ifc_f c_1_6434, ifc_f c_15_6435, ifc_t a6454, ifc_t a6456, ifc_t a6458, ifc_t trivial, ifc_f (q := False) (fun h9 => h9), ifc_f (q := (2 : Int32) = 0) (by decide), ifc_f (q := (2 : Int32) = 1) (by decide), ifc_t (q := (2 : Int32) = 2) rfl, ifc_f (q := (2 : Int32) = 3) (by decide), ifc_f (q := (2 : Int32) = 4) (by decide)]; done) | (simp only [ifc_t ekq, ifc_t ek8, ifc_t ek9, ifc_t hkq, ifc_t hk8, ifc_t hk9, ifc_f c_1_6434, ifc_f c_15_6435, ifc_t a6454, ifc_t a6456, ifc_t a6458, ifc_t trivial, ifc_f (q := False) (fun h9 => h9), ifc_f (q := (2 : Int32) = 0) (by decide), ifc_f (q := (2 : Int32) = 1) (by decide), ifc_t (q := (2 : Int32) = 2) rfl, ifc_f (q := (2 : Int32) = 3) (by decide), ifc_f (q := (2 : Int32) = 4) (by decide)]; rfl)), ⟨fun _ => ⟨3, x3, 0, (by rw [nI_clamp (n := js) (by omega)]; exact ⟨rfl, rfl, rfl, ⟨fun h9 => absurd h9 (by decide), fun h9 => absurd h9 (by decide), fun _ => ⟨by decide, rfl⟩⟩⟩)⟩, fun h9 => absurd (by unfold SHX; simp only [ifc_t ekq, ifc_t ek8, ifc_t ek9, ifc_t hkq, ifc_t hk8, ifc_t hk9, ifc_f c_1_6434, ifc_f c_15_6435, ifc_t a6454, ifc_t a6456, ifc_t a6458, ifc_t trivial, ifc_f (q := False) (fun h9 => h9), ifc_f (q := (2 : Int32) = 0) (by decide), ifc_f (q := (2 : Int32) = 1) (by decide), ifc_t (q := (2 : Int32) = 2) rfl, ifc_f (q := (2 : Int32) = 3) (by decide), ifc_f (q := (2 : Int32) = 4) (by decide)]) h9⟩⟩) rfl gX12_shelf_10.2.2.2.2
            · exact absurd (by unfold Wi; decide) a6458
          · refine lv_if_eq (tgt := 83) hx hb gX12_shelf_3.2.2.2.2.2.1 (by decide) (fun _ => ?_) (fun c9 => absurd (by decide) c9)
            refine lv_iconst (v := (-1)) hx hb gX12_shelf_4.2.2.2.1 (by decide) ?_
            refine toQ hQ0 ?_
            exact RI (v := (-1)) hC hP hD hS [0, 1, 2, 3, 4, 5, 6] (fnsh, fnsf, fnss) rfl rfl (by decide) (⟨(by unfold SHX; first | rfl | (simp only [ifc_t ekq, ifc_t ek8, ifc_t ek9, ifc_t hkq, ifc_t hk8, ifc_t hk9, ifc_f c_1_6434, ifc_f c_15_6435, ifc_t a6454, ifc_f a6456, ifc_t trivial, ifc_f (q := False) (fun h9 => h9), ifc_f (q := (2 : Int32) = 0) (by decide), ifc_f (q := (2 : Int32) = 1) (by decide), ifc_t (q := (2 : Int32) = 2) rfl, ifc_f (q := (2 : Int32) = 3) (by decide), ifc_f (q := (2 : Int32) = 4) (by decide)]; done) | (simp only [ifc_t ekq, ifc_t ek8, ifc_t ek9, ifc_t hkq, ifc_t hk8, ifc_t hk9, ifc_f c_1_6434, ifc_f c_15_6435, ifc_t a6454, ifc_f a6456, ifc_t trivial, ifc_f (q := False) (fun h9 => h9), ifc_f (q := (2 : Int32) = 0) (by decide), ifc_f (q := (2 : Int32) = 1) (by decide), ifc_t (q := (2 : Int32) = 2) rfl, ifc_f (q := (2 : Int32) = 3) (by decide), ifc_f (q := (2 : Int32) = 4) (by decide)]; rfl)), ⟨fun h9 => absurd ((show SHX x1 2 x3 kq k8 k9 = (-1) from by unfold SHX; simp only [ifc_t ekq, ifc_t ek8, ifc_t ek9, ifc_t hkq, ifc_t hk8, ifc_t hk9, ifc_f c_1_6434, ifc_f c_15_6435, ifc_t a6454, ifc_f a6456, ifc_t trivial, ifc_f (q := False) (fun h9 => h9), ifc_f (q := (2 : Int32) = 0) (by decide), ifc_f (q := (2 : Int32) = 1) (by decide), ifc_t (q := (2 : Int32) = 2) rfl, ifc_f (q := (2 : Int32) = 3) (by decide), ifc_f (q := (2 : Int32) = 4) (by decide)]).symm.trans h9) (by decide), fun _ => ⟨rfl, rfl, rfl⟩⟩⟩) rfl gX12_shelf_4.2.2.2.2.1
        · refine lv_goto (tgt := 60) hx hb gX12_shelf_2.2.2.1 (by decide) ?_
          refine lv_istore (lv' := [(4, .int 0), (0, .ref h0), (1, .int x1), (2, .int 2), (3, .int x3)]) hx hb gX12_shelf_3.2.2.1 hl (by decide) rfl (fun ls hl => ?_)
          refine lv_iload_n hx hb gX12_shelf_3.2.2.2.1 rfl (lv_at2 hl) ?_
          refine pS hC hK hl (m_isFour l G x1) si_X12_336 rfl rfl (Nat.le_of_ble_eq_true rfl) rm_3_2_1 ⟨by first | exact Nat.le_of_ble_eq_true rfl | exact Nat.zero_le _, by first | exact Nat.le_of_ble_eq_true rfl | exact Nat.zero_le _⟩ gX12_shelf_3.2.2.2.2.1 (Kors (Keqa fun a6460 => ?_) (Keqa fun a6460 => ?_))
          · refine lv_if_eq (tgt := 83) hx hb gX12_shelf_3.2.2.2.2.2.1 (by decide) (fun c9 => absurd c9 (by decide)) (fun _ => ?_)
            refine lv_iload_n hx hb gX12_shelf_3.2.2.2.2.2.2.1 rfl (lv_at3 hl) ?_
            refine lv_iconst (v := 0) hx hb gX12_shelf_3.2.2.2.2.2.2.2.1 (by decide) ?_
            refine lv_iconst (v := 4) hx hb gX12_shelf_3.2.2.2.2.2.2.2.2.1 (by decide) ?_
            refine pS hC hK hl (m_within l G 2 0 4) si_X12_84 rfl rfl (Nat.le_of_ble_eq_true rfl) rm_3_1_3 ⟨by first | exact Nat.le_of_ble_eq_true rfl | exact Nat.zero_le _, by first | exact Nat.le_of_ble_eq_true rfl | exact Nat.zero_le _⟩ gX12_shelf_3.2.2.2.2.2.2.2.2.2 (Kors (Keqa fun a6462 => ?_) (Keqa fun a6462 => ?_))
            · refine lv_if_eq (tgt := 83) hx hb gX12_shelf_4.1 (by decide) (fun c9 => absurd c9 (by decide)) (fun _ => ?_)
              refine lv_iload hx hb gX12_shelf_4.2.1 (lv_at0 hl) ?_
              refine lv_if_ne (tgt := 85) hx hb gX12_shelf_4.2.2.1 (by decide) (fun c9 => absurd (by decide) c9) (fun _ => ?_)
              refine lv_iconst (v := (-1)) hx hb gX12_shelf_4.2.2.2.1 (by decide) ?_
              refine toQ hQ0 ?_
              exact RI (v := (-1)) hC hP hD hS [0, 1, 2, 3, 4, 5, 6] (fnsh, fnsf, fnss) rfl rfl (by decide) (⟨(by unfold SHX; first | rfl | (simp only [ifc_t ekq, ifc_t ek8, ifc_t ek9, ifc_t hkq, ifc_t hk8, ifc_t hk9, ifc_f c_1_6434, ifc_f c_15_6435, ifc_f a6454, ifc_t a6460, ifc_t a6462, ifc_t trivial, ifc_f (q := False) (fun h9 => h9), ifc_f (q := (2 : Int32) = 0) (by decide), ifc_f (q := (2 : Int32) = 1) (by decide), ifc_t (q := (2 : Int32) = 2) rfl, ifc_f (q := (2 : Int32) = 3) (by decide), ifc_f (q := (2 : Int32) = 4) (by decide)]; done) | (simp only [ifc_t ekq, ifc_t ek8, ifc_t ek9, ifc_t hkq, ifc_t hk8, ifc_t hk9, ifc_f c_1_6434, ifc_f c_15_6435, ifc_f a6454, ifc_t a6460, ifc_t a6462, ifc_t trivial, ifc_f (q := False) (fun h9 => h9), ifc_f (q := (2 : Int32) = 0) (by decide), ifc_f (q := (2 : Int32) = 1) (by decide), ifc_t (q := (2 : Int32) = 2) rfl, ifc_f (q := (2 : Int32) = 3) (by decide), ifc_f (q := (2 : Int32) = 4) (by decide)]; rfl)), ⟨fun h9 => absurd ((show SHX x1 2 x3 kq k8 k9 = (-1) from by unfold SHX; simp only [ifc_t ekq, ifc_t ek8, ifc_t ek9, ifc_t hkq, ifc_t hk8, ifc_t hk9, ifc_f c_1_6434, ifc_f c_15_6435, ifc_f a6454, ifc_t a6460, ifc_t a6462, ifc_t trivial, ifc_f (q := False) (fun h9 => h9), ifc_f (q := (2 : Int32) = 0) (by decide), ifc_f (q := (2 : Int32) = 1) (by decide), ifc_t (q := (2 : Int32) = 2) rfl, ifc_f (q := (2 : Int32) = 3) (by decide), ifc_f (q := (2 : Int32) = 4) (by decide)]).symm.trans h9) (by decide), fun _ => ⟨rfl, rfl, rfl⟩⟩⟩) rfl gX12_shelf_4.2.2.2.2.1
            · exact absurd (by unfold Wi; decide) a6462
          · refine lv_if_eq (tgt := 83) hx hb gX12_shelf_3.2.2.2.2.2.1 (by decide) (fun _ => ?_) (fun c9 => absurd (by decide) c9)
            refine lv_iconst (v := (-1)) hx hb gX12_shelf_4.2.2.2.1 (by decide) ?_
            refine toQ hQ0 ?_
            exact RI (v := (-1)) hC hP hD hS [0, 1, 2, 3, 4, 5, 6] (fnsh, fnsf, fnss) rfl rfl (by decide) (⟨(by unfold SHX; first | rfl | (simp only [ifc_t ekq, ifc_t ek8, ifc_t ek9, ifc_t hkq, ifc_t hk8, ifc_t hk9, ifc_f c_1_6434, ifc_f c_15_6435, ifc_f a6454, ifc_f a6460, ifc_t trivial, ifc_f (q := False) (fun h9 => h9), ifc_f (q := (2 : Int32) = 0) (by decide), ifc_f (q := (2 : Int32) = 1) (by decide), ifc_t (q := (2 : Int32) = 2) rfl, ifc_f (q := (2 : Int32) = 3) (by decide), ifc_f (q := (2 : Int32) = 4) (by decide)]; done) | (simp only [ifc_t ekq, ifc_t ek8, ifc_t ek9, ifc_t hkq, ifc_t hk8, ifc_t hk9, ifc_f c_1_6434, ifc_f c_15_6435, ifc_f a6454, ifc_f a6460, ifc_t trivial, ifc_f (q := False) (fun h9 => h9), ifc_f (q := (2 : Int32) = 0) (by decide), ifc_f (q := (2 : Int32) = 1) (by decide), ifc_t (q := (2 : Int32) = 2) rfl, ifc_f (q := (2 : Int32) = 3) (by decide), ifc_f (q := (2 : Int32) = 4) (by decide)]; rfl)), ⟨fun h9 => absurd ((show SHX x1 2 x3 kq k8 k9 = (-1) from by unfold SHX; simp only [ifc_t ekq, ifc_t ek8, ifc_t ek9, ifc_t hkq, ifc_t hk8, ifc_t hk9, ifc_f c_1_6434, ifc_f c_15_6435, ifc_f a6454, ifc_f a6460, ifc_t trivial, ifc_f (q := False) (fun h9 => h9), ifc_f (q := (2 : Int32) = 0) (by decide), ifc_f (q := (2 : Int32) = 1) (by decide), ifc_t (q := (2 : Int32) = 2) rfl, ifc_f (q := (2 : Int32) = 3) (by decide), ifc_f (q := (2 : Int32) = 4) (by decide)]).symm.trans h9) (by decide), fun _ => ⟨rfl, rfl, rfl⟩⟩⟩) rfl gX12_shelf_4.2.2.2.2.1
    · obtain rfl : x2 = 1 := c_15_6435
      refine lv_aload_n hx hb gX12_shelf_1.1 rfl (lv_at0 hl) ?_
      refine lv_iload_n hx hb gX12_shelf_1.2.1 rfl (lv_at3 hl) ?_
      refine lv_bipush (v := 8) hx hb gX12_shelf_1.2.2.1 (by decide) ?_
      refine pV hC hK hl hP hD (m_is l G k8 h0 x3 8 nw nk mhasKept nt mtaped nr mrowMany mroundOf mroundFrom mouts nm mfromHour mtoHour ns mfrom mto msort misFault mdeep mcoded mlines nl nc nF np ntr nb mbestCost nso nsi nit nsh nsf nss nrc mtraced mdealer mnumber mwhose msize misParted fnw (by omega) (ek8) (by omega)) si_X12_120 [0, 1] sm_0_1 fm_0_1 nd_0_1 rfl rfl rfl rfl rfl (Nat.le_of_ble_eq_true rfl) rm_3_2_3 ⟨by first | exact Nat.le_of_ble_eq_true rfl | exact Nat.zero_le _, by first | exact Nat.le_of_ble_eq_true rfl | exact Nat.zero_le _⟩ gX12_shelf_1.2.2.2.1 (Kors (Keqa fun a6464 => ?_) (Keqa fun a6464 => ?_))
      · refine lv_goto (tgt := 60) hx hb gX12_shelf_1.2.2.2.2.1 (by decide) ?_
        refine lv_istore (lv' := [(4, .int 1), (0, .ref h0), (1, .int x1), (2, .int 1), (3, .int x3)]) hx hb gX12_shelf_3.2.2.1 hl (by decide) rfl (fun ls hl => ?_)
        refine lv_iload_n hx hb gX12_shelf_3.2.2.2.1 rfl (lv_at2 hl) ?_
        refine pS hC hK hl (m_isFour l G x1) si_X12_336 rfl rfl (Nat.le_of_ble_eq_true rfl) rm_3_2_1 ⟨by first | exact Nat.le_of_ble_eq_true rfl | exact Nat.zero_le _, by first | exact Nat.le_of_ble_eq_true rfl | exact Nat.zero_le _⟩ gX12_shelf_3.2.2.2.2.1 (Kors (Keqa fun a6466 => ?_) (Keqa fun a6466 => ?_))
        · refine lv_if_eq (tgt := 83) hx hb gX12_shelf_3.2.2.2.2.2.1 (by decide) (fun c9 => absurd c9 (by decide)) (fun _ => ?_)
          refine lv_iload_n hx hb gX12_shelf_3.2.2.2.2.2.2.1 rfl (lv_at3 hl) ?_
          refine lv_iconst (v := 0) hx hb gX12_shelf_3.2.2.2.2.2.2.2.1 (by decide) ?_
          refine lv_iconst (v := 4) hx hb gX12_shelf_3.2.2.2.2.2.2.2.2.1 (by decide) ?_
          refine pS hC hK hl (m_within l G 1 0 4) si_X12_84 rfl rfl (Nat.le_of_ble_eq_true rfl) rm_3_1_3 ⟨by first | exact Nat.le_of_ble_eq_true rfl | exact Nat.zero_le _, by first | exact Nat.le_of_ble_eq_true rfl | exact Nat.zero_le _⟩ gX12_shelf_3.2.2.2.2.2.2.2.2.2 (Kors (Keqa fun a6468 => ?_) (Keqa fun a6468 => ?_))
          · refine lv_if_eq (tgt := 83) hx hb gX12_shelf_4.1 (by decide) (fun c9 => absurd c9 (by decide)) (fun _ => ?_)
            refine lv_iload hx hb gX12_shelf_4.2.1 (lv_at0 hl) ?_
            refine lv_if_ne (tgt := 85) hx hb gX12_shelf_4.2.2.1 (by decide) (fun _ => ?_) (fun c9 => absurd c9 (by decide))
            obtain ⟨js, hjs, rfl⟩ := Wi_nat (N := 3) (by decide) a6466
            refine lv_iload_n hx hb gX12_shelf_4.2.2.2.2.2.1 rfl (lv_at3 hl) ?_
            refine lv_iconst (v := 4) hx hb gX12_shelf_4.2.2.2.2.2.2.1 (by decide) ?_
            refine lv_icmp_eq (tgt := 104) hx hb gX12_shelf_4.2.2.2.2.2.2.2.1 (by decide) (fun c9 => absurd c9 (by decide)) (fun _ => ?_)
            refine lv_iload_n hx hb gX12_shelf_4.2.2.2.2.2.2.2.2.1 rfl (lv_at3 hl) ?_
            refine lv_iconst (v := 3) hx hb gX12_shelf_4.2.2.2.2.2.2.2.2.2 (by decide) ?_
            refine lv_icmp_ne (tgt := 108) hx hb gX12_shelf_5.1 (by decide) (fun _ => ?_) (fun c9 => absurd c9 (by decide))
            refine lv_iconst (v := 0) hx hb gX12_shelf_5.2.2.2.2.2.2.2.2.1 (by decide) ?_
            refine lv_istore (lv' := [(5, .int 0), (4, .int 1), (0, .ref h0), (1, .int (nI js)), (2, .int 1), (3, .int x3)]) hx hb gX12_shelf_5.2.2.2.2.2.2.2.2.2 hl (by decide) rfl (fun ls hl => ?_)
            refine lv_aload_n hx hb gX12_shelf_6.1 rfl (lv_at2 hl) ?_
            refine gf_X12_72 hC rfl hK hP 0 rfl rfl gX12_shelf_6.2.1 ?_
            refine lv_iload_n hx hb gX12_shelf_6.2.2.1 rfl (lv_at3 hl) ?_
            refine lv_iload hx hb gX12_shelf_6.2.2.2.1 (lv_at0 hl) ?_
            refine lv_if_eq (tgt := 125) hx hb gX12_shelf_6.2.2.2.2.1 (by decide) (fun _ => ?_) (fun c9 => absurd (by decide) c9)
            refine lv_iload_n hx hb gX12_shelf_6.2.2.2.2.2.2.2.1 rfl (lv_at4 hl) ?_
            refine lv_iconst (v := 1) hx hb gX12_shelf_6.2.2.2.2.2.2.2.2.1 (by decide) ?_
            refine lv_iadd hx hb gX12_shelf_6.2.2.2.2.2.2.2.2.2 ?_
            refine eqi (x1 := 2) (by decide) ?_
            refine astN hC hK hP hD hS 4 (ws' := [(h0, oX12 nw nk mhasKept nt mtaped nr mrowMany mroundOf mroundFrom mouts nm mfromHour mtoHour ns mfrom mto msort misFault mdeep mcoded mlines nl nc nF np ntr nb mbestCost nso nsi nit nsh nsf nss nrc mtraced mdealer mnumber mwhose msize misParted), (nw, iA G 1662 fnw), (nso, iA G 4 fnso), (nsi, iA G 4 fnsi), (nsh, iA G 4 (upd fnsh js 2)), (nsf, iA G 4 fnsf), (nss, iA G 4 fnss)]) rfl (k := js) (by omega) (Nat.le_of_ble_eq_true rfl) (rfl) gX12_shelf_7.1 (fun H locs hP hD hS => ?_)
            refine lv_aload_n hx hb gX12_shelf_7.2.1 rfl (lv_at2 hl) ?_
            refine gf_X12_75 hC rfl hK hP 0 rfl rfl gX12_shelf_7.2.2.1 ?_
            refine lv_iload_n hx hb gX12_shelf_7.2.2.2.1 rfl (lv_at3 hl) ?_
            refine lv_iload hx hb gX12_shelf_7.2.2.2.2.1 (lv_at0 hl) ?_
            refine lv_if_eq (tgt := 143) hx hb gX12_shelf_7.2.2.2.2.2.1 (by decide) (fun _ => ?_) (fun c9 => absurd (by decide) c9)
            refine lv_iload_n hx hb gX12_shelf_7.2.2.2.2.2.2.2.2.1 rfl (lv_at4 hl) ?_
            refine lv_iconst (v := 3) hx hb gX12_shelf_7.2.2.2.2.2.2.2.2.2 (by decide) ?_
            refine lv_icmp_ne (tgt := 157) hx hb gX12_shelf_8.1 (by decide) (fun _ => ?_) (fun c9 => absurd c9 (by decide))
            refine lv_iload_n hx hb gX12_shelf_8.2.2.2.2.2.2.1 rfl (lv_at5 hl) ?_
            refine astN hC hK hP hD hS 5 (ws' := [(h0, oX12 nw nk mhasKept nt mtaped nr mrowMany mroundOf mroundFrom mouts nm mfromHour mtoHour ns mfrom mto msort misFault mdeep mcoded mlines nl nc nF np ntr nb mbestCost nso nsi nit nsh nsf nss nrc mtraced mdealer mnumber mwhose msize misParted), (nw, iA G 1662 fnw), (nso, iA G 4 fnso), (nsi, iA G 4 fnsi), (nsh, iA G 4 (upd fnsh js 2)), (nsf, iA G 4 (upd fnsf js x3)), (nss, iA G 4 fnss)]) rfl (k := js) (by omega) (Nat.le_of_ble_eq_true rfl) (rfl) gX12_shelf_8.2.2.2.2.2.2.2.1 (fun H locs hP hD hS => ?_)
            refine lv_aload_n hx hb gX12_shelf_8.2.2.2.2.2.2.2.2.1 rfl (lv_at2 hl) ?_
            refine gf_X12_78 hC rfl hK hP 0 rfl rfl gX12_shelf_8.2.2.2.2.2.2.2.2.2 ?_
            refine lv_iload_n hx hb gX12_shelf_9.1 rfl (lv_at3 hl) ?_
            refine lv_iload hx hb gX12_shelf_9.2.1 (lv_at0 hl) ?_
            refine lv_if_ne (tgt := 174) hx hb gX12_shelf_9.2.2.1 (by decide) (fun c9 => absurd (by decide) c9) (fun _ => ?_)
            refine lv_iload_n hx hb gX12_shelf_9.2.2.2.1 rfl (lv_at4 hl) ?_
            refine lv_iconst (v := 3) hx hb gX12_shelf_9.2.2.2.2.1 (by decide) ?_
            refine lv_icmp_ge (tgt := 178) hx hb gX12_shelf_9.2.2.2.2.2.1 (by decide) (fun c9 => absurd c9 (by decide)) (fun _ => ?_)
            refine lv_iconst (v := 0) hx hb gX12_shelf_9.2.2.2.2.2.2.1 (by decide) ?_
            refine lv_goto (tgt := 184) hx hb gX12_shelf_9.2.2.2.2.2.2.2.1 (by decide) ?_
            refine astN hC hK hP hD hS 6 (ws' := [(h0, oX12 nw nk mhasKept nt mtaped nr mrowMany mroundOf mroundFrom mouts nm mfromHour mtoHour ns mfrom mto msort misFault mdeep mcoded mlines nl nc nF np ntr nb mbestCost nso nsi nit nsh nsf nss nrc mtraced mdealer mnumber mwhose msize misParted), (nw, iA G 1662 fnw), (nso, iA G 4 fnso), (nsi, iA G 4 fnsi), (nsh, iA G 4 (upd fnsh js 2)), (nsf, iA G 4 (upd fnsf js x3)), (nss, iA G 4 (upd fnss js 0))]) rfl (k := js) (by omega) (Nat.le_of_ble_eq_true rfl) (rfl) gX12_shelf_10.2.2.1 (fun H locs hP hD hS => ?_)
            refine lv_iconst (v := 1) hx hb gX12_shelf_10.2.2.2.1 (by decide) ?_
            refine toQ hQ0 ?_
            exact RI (v := 1) hC hP hD hS [0, 1, 2, 3, 4, 5, 6] (upd fnsh js 2, upd fnsf js x3, upd fnss js 0) rfl rfl (by decide) (⟨(by unfold SHX; first | rfl | (simp only [ifc_t ekq, ifc_t ek8, ifc_t ek9, ifc_t hkq, ifc_t hk8, ifc_t hk9, ifc_f c_1_6434, ifc_t a6464, ifc_t a6466, ifc_t a6468, ifc_t trivial, ifc_f (q := False) (fun h9 => h9), ifc_f (q := (1 : Int32) = 0) (by decide), ifc_t (q := (1 : Int32) = 1) rfl, ifc_f (q := (1 : Int32) = 2) (by decide), ifc_f (q := (1 : Int32) = 3) (by decide), ifc_f (q := (1 : Int32) = 4) (by decide)]; done) | (simp only [ifc_t ekq, ifc_t ek8, ifc_t ek9, ifc_t hkq, ifc_t hk8, ifc_t hk9, ifc_f c_1_6434, ifc_t a6464, ifc_t a6466, ifc_t a6468, ifc_t trivial, ifc_f (q := False) (fun h9 => h9), ifc_f (q := (1 : Int32) = 0) (by decide), ifc_t (q := (1 : Int32) = 1) rfl, ifc_f (q := (1 : Int32) = 2) (by decide), ifc_f (q := (1 : Int32) = 3) (by decide), ifc_f (q := (1 : Int32) = 4) (by decide)]; rfl)), ⟨fun _ => ⟨2, x3, 0, (by rw [nI_clamp (n := js) (by omega)]; exact ⟨rfl, rfl, rfl, ⟨fun h9 => absurd h9 (by decide), fun h9 => absurd h9 (by decide), fun _ => ⟨by decide, rfl⟩⟩⟩)⟩, fun h9 => absurd (by unfold SHX; simp only [ifc_t ekq, ifc_t ek8, ifc_t ek9, ifc_t hkq, ifc_t hk8, ifc_t hk9, ifc_f c_1_6434, ifc_t a6464, ifc_t a6466, ifc_t a6468, ifc_t trivial, ifc_f (q := False) (fun h9 => h9), ifc_f (q := (1 : Int32) = 0) (by decide), ifc_t (q := (1 : Int32) = 1) rfl, ifc_f (q := (1 : Int32) = 2) (by decide), ifc_f (q := (1 : Int32) = 3) (by decide), ifc_f (q := (1 : Int32) = 4) (by decide)]) h9⟩⟩) rfl gX12_shelf_10.2.2.2.2
          · exact absurd (by unfold Wi; decide) a6468
        · refine lv_if_eq (tgt := 83) hx hb gX12_shelf_3.2.2.2.2.2.1 (by decide) (fun _ => ?_) (fun c9 => absurd (by decide) c9)
          refine lv_iconst (v := (-1)) hx hb gX12_shelf_4.2.2.2.1 (by decide) ?_
          refine toQ hQ0 ?_
          exact RI (v := (-1)) hC hP hD hS [0, 1, 2, 3, 4, 5, 6] (fnsh, fnsf, fnss) rfl rfl (by decide) (⟨(by unfold SHX; first | rfl | (simp only [ifc_t ekq, ifc_t ek8, ifc_t ek9, ifc_t hkq, ifc_t hk8, ifc_t hk9, ifc_f c_1_6434, ifc_t a6464, ifc_f a6466, ifc_t trivial, ifc_f (q := False) (fun h9 => h9), ifc_f (q := (1 : Int32) = 0) (by decide), ifc_t (q := (1 : Int32) = 1) rfl, ifc_f (q := (1 : Int32) = 2) (by decide), ifc_f (q := (1 : Int32) = 3) (by decide), ifc_f (q := (1 : Int32) = 4) (by decide)]; done) | (simp only [ifc_t ekq, ifc_t ek8, ifc_t ek9, ifc_t hkq, ifc_t hk8, ifc_t hk9, ifc_f c_1_6434, ifc_t a6464, ifc_f a6466, ifc_t trivial, ifc_f (q := False) (fun h9 => h9), ifc_f (q := (1 : Int32) = 0) (by decide), ifc_t (q := (1 : Int32) = 1) rfl, ifc_f (q := (1 : Int32) = 2) (by decide), ifc_f (q := (1 : Int32) = 3) (by decide), ifc_f (q := (1 : Int32) = 4) (by decide)]; rfl)), ⟨fun h9 => absurd ((show SHX x1 1 x3 kq k8 k9 = (-1) from by unfold SHX; simp only [ifc_t ekq, ifc_t ek8, ifc_t ek9, ifc_t hkq, ifc_t hk8, ifc_t hk9, ifc_f c_1_6434, ifc_t a6464, ifc_f a6466, ifc_t trivial, ifc_f (q := False) (fun h9 => h9), ifc_f (q := (1 : Int32) = 0) (by decide), ifc_t (q := (1 : Int32) = 1) rfl, ifc_f (q := (1 : Int32) = 2) (by decide), ifc_f (q := (1 : Int32) = 3) (by decide), ifc_f (q := (1 : Int32) = 4) (by decide)]).symm.trans h9) (by decide), fun _ => ⟨rfl, rfl, rfl⟩⟩⟩) rfl gX12_shelf_4.2.2.2.2.1
      · refine lv_goto (tgt := 60) hx hb gX12_shelf_1.2.2.2.2.1 (by decide) ?_
        refine lv_istore (lv' := [(4, .int 0), (0, .ref h0), (1, .int x1), (2, .int 1), (3, .int x3)]) hx hb gX12_shelf_3.2.2.1 hl (by decide) rfl (fun ls hl => ?_)
        refine lv_iload_n hx hb gX12_shelf_3.2.2.2.1 rfl (lv_at2 hl) ?_
        refine pS hC hK hl (m_isFour l G x1) si_X12_336 rfl rfl (Nat.le_of_ble_eq_true rfl) rm_3_2_1 ⟨by first | exact Nat.le_of_ble_eq_true rfl | exact Nat.zero_le _, by first | exact Nat.le_of_ble_eq_true rfl | exact Nat.zero_le _⟩ gX12_shelf_3.2.2.2.2.1 (Kors (Keqa fun a6470 => ?_) (Keqa fun a6470 => ?_))
        · refine lv_if_eq (tgt := 83) hx hb gX12_shelf_3.2.2.2.2.2.1 (by decide) (fun c9 => absurd c9 (by decide)) (fun _ => ?_)
          refine lv_iload_n hx hb gX12_shelf_3.2.2.2.2.2.2.1 rfl (lv_at3 hl) ?_
          refine lv_iconst (v := 0) hx hb gX12_shelf_3.2.2.2.2.2.2.2.1 (by decide) ?_
          refine lv_iconst (v := 4) hx hb gX12_shelf_3.2.2.2.2.2.2.2.2.1 (by decide) ?_
          refine pS hC hK hl (m_within l G 1 0 4) si_X12_84 rfl rfl (Nat.le_of_ble_eq_true rfl) rm_3_1_3 ⟨by first | exact Nat.le_of_ble_eq_true rfl | exact Nat.zero_le _, by first | exact Nat.le_of_ble_eq_true rfl | exact Nat.zero_le _⟩ gX12_shelf_3.2.2.2.2.2.2.2.2.2 (Kors (Keqa fun a6472 => ?_) (Keqa fun a6472 => ?_))
          · refine lv_if_eq (tgt := 83) hx hb gX12_shelf_4.1 (by decide) (fun c9 => absurd c9 (by decide)) (fun _ => ?_)
            refine lv_iload hx hb gX12_shelf_4.2.1 (lv_at0 hl) ?_
            refine lv_if_ne (tgt := 85) hx hb gX12_shelf_4.2.2.1 (by decide) (fun c9 => absurd (by decide) c9) (fun _ => ?_)
            refine lv_iconst (v := (-1)) hx hb gX12_shelf_4.2.2.2.1 (by decide) ?_
            refine toQ hQ0 ?_
            exact RI (v := (-1)) hC hP hD hS [0, 1, 2, 3, 4, 5, 6] (fnsh, fnsf, fnss) rfl rfl (by decide) (⟨(by unfold SHX; first | rfl | (simp only [ifc_t ekq, ifc_t ek8, ifc_t ek9, ifc_t hkq, ifc_t hk8, ifc_t hk9, ifc_f c_1_6434, ifc_f a6464, ifc_t a6470, ifc_t a6472, ifc_t trivial, ifc_f (q := False) (fun h9 => h9), ifc_f (q := (1 : Int32) = 0) (by decide), ifc_t (q := (1 : Int32) = 1) rfl, ifc_f (q := (1 : Int32) = 2) (by decide), ifc_f (q := (1 : Int32) = 3) (by decide), ifc_f (q := (1 : Int32) = 4) (by decide)]; done) | (simp only [ifc_t ekq, ifc_t ek8, ifc_t ek9, ifc_t hkq, ifc_t hk8, ifc_t hk9, ifc_f c_1_6434, ifc_f a6464, ifc_t a6470, ifc_t a6472, ifc_t trivial, ifc_f (q := False) (fun h9 => h9), ifc_f (q := (1 : Int32) = 0) (by decide), ifc_t (q := (1 : Int32) = 1) rfl, ifc_f (q := (1 : Int32) = 2) (by decide), ifc_f (q := (1 : Int32) = 3) (by decide), ifc_f (q := (1 : Int32) = 4) (by decide)]; rfl)), ⟨fun h9 => absurd ((show SHX x1 1 x3 kq k8 k9 = (-1) from by unfold SHX; simp only [ifc_t ekq, ifc_t ek8, ifc_t ek9, ifc_t hkq, ifc_t hk8, ifc_t hk9, ifc_f c_1_6434, ifc_f a6464, ifc_t a6470, ifc_t a6472, ifc_t trivial, ifc_f (q := False) (fun h9 => h9), ifc_f (q := (1 : Int32) = 0) (by decide), ifc_t (q := (1 : Int32) = 1) rfl, ifc_f (q := (1 : Int32) = 2) (by decide), ifc_f (q := (1 : Int32) = 3) (by decide), ifc_f (q := (1 : Int32) = 4) (by decide)]).symm.trans h9) (by decide), fun _ => ⟨rfl, rfl, rfl⟩⟩⟩) rfl gX12_shelf_4.2.2.2.2.1
          · exact absurd (by unfold Wi; decide) a6472
        · refine lv_if_eq (tgt := 83) hx hb gX12_shelf_3.2.2.2.2.2.1 (by decide) (fun _ => ?_) (fun c9 => absurd (by decide) c9)
          refine lv_iconst (v := (-1)) hx hb gX12_shelf_4.2.2.2.1 (by decide) ?_
          refine toQ hQ0 ?_
          exact RI (v := (-1)) hC hP hD hS [0, 1, 2, 3, 4, 5, 6] (fnsh, fnsf, fnss) rfl rfl (by decide) (⟨(by unfold SHX; first | rfl | (simp only [ifc_t ekq, ifc_t ek8, ifc_t ek9, ifc_t hkq, ifc_t hk8, ifc_t hk9, ifc_f c_1_6434, ifc_f a6464, ifc_f a6470, ifc_t trivial, ifc_f (q := False) (fun h9 => h9), ifc_f (q := (1 : Int32) = 0) (by decide), ifc_t (q := (1 : Int32) = 1) rfl, ifc_f (q := (1 : Int32) = 2) (by decide), ifc_f (q := (1 : Int32) = 3) (by decide), ifc_f (q := (1 : Int32) = 4) (by decide)]; done) | (simp only [ifc_t ekq, ifc_t ek8, ifc_t ek9, ifc_t hkq, ifc_t hk8, ifc_t hk9, ifc_f c_1_6434, ifc_f a6464, ifc_f a6470, ifc_t trivial, ifc_f (q := False) (fun h9 => h9), ifc_f (q := (1 : Int32) = 0) (by decide), ifc_t (q := (1 : Int32) = 1) rfl, ifc_f (q := (1 : Int32) = 2) (by decide), ifc_f (q := (1 : Int32) = 3) (by decide), ifc_f (q := (1 : Int32) = 4) (by decide)]; rfl)), ⟨fun h9 => absurd ((show SHX x1 1 x3 kq k8 k9 = (-1) from by unfold SHX; simp only [ifc_t ekq, ifc_t ek8, ifc_t ek9, ifc_t hkq, ifc_t hk8, ifc_t hk9, ifc_f c_1_6434, ifc_f a6464, ifc_f a6470, ifc_t trivial, ifc_f (q := False) (fun h9 => h9), ifc_f (q := (1 : Int32) = 0) (by decide), ifc_t (q := (1 : Int32) = 1) rfl, ifc_f (q := (1 : Int32) = 2) (by decide), ifc_f (q := (1 : Int32) = 3) (by decide), ifc_f (q := (1 : Int32) = 4) (by decide)]).symm.trans h9) (by decide), fun _ => ⟨rfl, rfl, rfl⟩⟩⟩) rfl gX12_shelf_4.2.2.2.2.1
  · obtain rfl : x2 = 0 := c_1_6434
    refine lv_aload_n hx hb gX12_shelf_0.2.2.1 rfl (lv_at0 hl) ?_
    refine lv_iload_n hx hb gX12_shelf_0.2.2.2.1 rfl (lv_at3 hl) ?_
    refine lv_iconst (v := 5) hx hb gX12_shelf_0.2.2.2.2.1 (by decide) ?_
    refine pV hC hK hl hP hD (m_is l G kq h0 x3 5 nw nk mhasKept nt mtaped nr mrowMany mroundOf mroundFrom mouts nm mfromHour mtoHour ns mfrom mto msort misFault mdeep mcoded mlines nl nc nF np ntr nb mbestCost nso nsi nit nsh nsf nss nrc mtraced mdealer mnumber mwhose msize misParted fnw (by omega) (ekq) (by omega)) si_X12_120 [0, 1] sm_0_1 fm_0_1 nd_0_1 rfl rfl rfl rfl rfl (Nat.le_of_ble_eq_true rfl) rm_3_2_3 ⟨by first | exact Nat.le_of_ble_eq_true rfl | exact Nat.zero_le _, by first | exact Nat.le_of_ble_eq_true rfl | exact Nat.zero_le _⟩ gX12_shelf_0.2.2.2.2.2.1 (Kors (Keqa fun a6474 => ?_) (Keqa fun a6474 => ?_))
    · refine lv_goto (tgt := 60) hx hb gX12_shelf_0.2.2.2.2.2.2.1 (by decide) ?_
      refine lv_istore (lv' := [(4, .int 1), (0, .ref h0), (1, .int x1), (2, .int 0), (3, .int x3)]) hx hb gX12_shelf_3.2.2.1 hl (by decide) rfl (fun ls hl => ?_)
      refine lv_iload_n hx hb gX12_shelf_3.2.2.2.1 rfl (lv_at2 hl) ?_
      refine pS hC hK hl (m_isFour l G x1) si_X12_336 rfl rfl (Nat.le_of_ble_eq_true rfl) rm_3_2_1 ⟨by first | exact Nat.le_of_ble_eq_true rfl | exact Nat.zero_le _, by first | exact Nat.le_of_ble_eq_true rfl | exact Nat.zero_le _⟩ gX12_shelf_3.2.2.2.2.1 (Kors (Keqa fun a6476 => ?_) (Keqa fun a6476 => ?_))
      · refine lv_if_eq (tgt := 83) hx hb gX12_shelf_3.2.2.2.2.2.1 (by decide) (fun c9 => absurd c9 (by decide)) (fun _ => ?_)
        refine lv_iload_n hx hb gX12_shelf_3.2.2.2.2.2.2.1 rfl (lv_at3 hl) ?_
        refine lv_iconst (v := 0) hx hb gX12_shelf_3.2.2.2.2.2.2.2.1 (by decide) ?_
        refine lv_iconst (v := 4) hx hb gX12_shelf_3.2.2.2.2.2.2.2.2.1 (by decide) ?_
        refine pS hC hK hl (m_within l G 0 0 4) si_X12_84 rfl rfl (Nat.le_of_ble_eq_true rfl) rm_3_1_3 ⟨by first | exact Nat.le_of_ble_eq_true rfl | exact Nat.zero_le _, by first | exact Nat.le_of_ble_eq_true rfl | exact Nat.zero_le _⟩ gX12_shelf_3.2.2.2.2.2.2.2.2.2 (Kors (Keqa fun a6478 => ?_) (Keqa fun a6478 => ?_))
        · refine lv_if_eq (tgt := 83) hx hb gX12_shelf_4.1 (by decide) (fun c9 => absurd c9 (by decide)) (fun _ => ?_)
          refine lv_iload hx hb gX12_shelf_4.2.1 (lv_at0 hl) ?_
          refine lv_if_ne (tgt := 85) hx hb gX12_shelf_4.2.2.1 (by decide) (fun _ => ?_) (fun c9 => absurd c9 (by decide))
          obtain ⟨js, hjs, rfl⟩ := Wi_nat (N := 3) (by decide) a6476
          refine lv_iload_n hx hb gX12_shelf_4.2.2.2.2.2.1 rfl (lv_at3 hl) ?_
          refine lv_iconst (v := 4) hx hb gX12_shelf_4.2.2.2.2.2.2.1 (by decide) ?_
          refine lv_icmp_eq (tgt := 104) hx hb gX12_shelf_4.2.2.2.2.2.2.2.1 (by decide) (fun c9 => absurd c9 (by decide)) (fun _ => ?_)
          refine lv_iload_n hx hb gX12_shelf_4.2.2.2.2.2.2.2.2.1 rfl (lv_at3 hl) ?_
          refine lv_iconst (v := 3) hx hb gX12_shelf_4.2.2.2.2.2.2.2.2.2 (by decide) ?_
          refine lv_icmp_ne (tgt := 108) hx hb gX12_shelf_5.1 (by decide) (fun _ => ?_) (fun c9 => absurd c9 (by decide))
          refine lv_iconst (v := 0) hx hb gX12_shelf_5.2.2.2.2.2.2.2.2.1 (by decide) ?_
          refine lv_istore (lv' := [(5, .int 0), (4, .int 1), (0, .ref h0), (1, .int (nI js)), (2, .int 0), (3, .int x3)]) hx hb gX12_shelf_5.2.2.2.2.2.2.2.2.2 hl (by decide) rfl (fun ls hl => ?_)
          refine lv_aload_n hx hb gX12_shelf_6.1 rfl (lv_at2 hl) ?_
          refine gf_X12_72 hC rfl hK hP 0 rfl rfl gX12_shelf_6.2.1 ?_
          refine lv_iload_n hx hb gX12_shelf_6.2.2.1 rfl (lv_at3 hl) ?_
          refine lv_iload hx hb gX12_shelf_6.2.2.2.1 (lv_at0 hl) ?_
          refine lv_if_eq (tgt := 125) hx hb gX12_shelf_6.2.2.2.2.1 (by decide) (fun _ => ?_) (fun c9 => absurd (by decide) c9)
          refine lv_iload_n hx hb gX12_shelf_6.2.2.2.2.2.2.2.1 rfl (lv_at4 hl) ?_
          refine lv_iconst (v := 1) hx hb gX12_shelf_6.2.2.2.2.2.2.2.2.1 (by decide) ?_
          refine lv_iadd hx hb gX12_shelf_6.2.2.2.2.2.2.2.2.2 ?_
          refine eqi (x1 := 1) (by decide) ?_
          refine astN hC hK hP hD hS 4 (ws' := [(h0, oX12 nw nk mhasKept nt mtaped nr mrowMany mroundOf mroundFrom mouts nm mfromHour mtoHour ns mfrom mto msort misFault mdeep mcoded mlines nl nc nF np ntr nb mbestCost nso nsi nit nsh nsf nss nrc mtraced mdealer mnumber mwhose msize misParted), (nw, iA G 1662 fnw), (nso, iA G 4 fnso), (nsi, iA G 4 fnsi), (nsh, iA G 4 (upd fnsh js 1)), (nsf, iA G 4 fnsf), (nss, iA G 4 fnss)]) rfl (k := js) (by omega) (Nat.le_of_ble_eq_true rfl) (rfl) gX12_shelf_7.1 (fun H locs hP hD hS => ?_)
          refine lv_aload_n hx hb gX12_shelf_7.2.1 rfl (lv_at2 hl) ?_
          refine gf_X12_75 hC rfl hK hP 0 rfl rfl gX12_shelf_7.2.2.1 ?_
          refine lv_iload_n hx hb gX12_shelf_7.2.2.2.1 rfl (lv_at3 hl) ?_
          refine lv_iload hx hb gX12_shelf_7.2.2.2.2.1 (lv_at0 hl) ?_
          refine lv_if_eq (tgt := 143) hx hb gX12_shelf_7.2.2.2.2.2.1 (by decide) (fun _ => ?_) (fun c9 => absurd (by decide) c9)
          refine lv_iload_n hx hb gX12_shelf_7.2.2.2.2.2.2.2.2.1 rfl (lv_at4 hl) ?_
          refine lv_iconst (v := 3) hx hb gX12_shelf_7.2.2.2.2.2.2.2.2.2 (by decide) ?_
          refine lv_icmp_ne (tgt := 157) hx hb gX12_shelf_8.1 (by decide) (fun _ => ?_) (fun c9 => absurd c9 (by decide))
          refine lv_iload_n hx hb gX12_shelf_8.2.2.2.2.2.2.1 rfl (lv_at5 hl) ?_
          refine astN hC hK hP hD hS 5 (ws' := [(h0, oX12 nw nk mhasKept nt mtaped nr mrowMany mroundOf mroundFrom mouts nm mfromHour mtoHour ns mfrom mto msort misFault mdeep mcoded mlines nl nc nF np ntr nb mbestCost nso nsi nit nsh nsf nss nrc mtraced mdealer mnumber mwhose msize misParted), (nw, iA G 1662 fnw), (nso, iA G 4 fnso), (nsi, iA G 4 fnsi), (nsh, iA G 4 (upd fnsh js 1)), (nsf, iA G 4 (upd fnsf js x3)), (nss, iA G 4 fnss)]) rfl (k := js) (by omega) (Nat.le_of_ble_eq_true rfl) (rfl) gX12_shelf_8.2.2.2.2.2.2.2.1 (fun H locs hP hD hS => ?_)
          refine lv_aload_n hx hb gX12_shelf_8.2.2.2.2.2.2.2.2.1 rfl (lv_at2 hl) ?_
          refine gf_X12_78 hC rfl hK hP 0 rfl rfl gX12_shelf_8.2.2.2.2.2.2.2.2.2 ?_
          refine lv_iload_n hx hb gX12_shelf_9.1 rfl (lv_at3 hl) ?_
          refine lv_iload hx hb gX12_shelf_9.2.1 (lv_at0 hl) ?_
          refine lv_if_ne (tgt := 174) hx hb gX12_shelf_9.2.2.1 (by decide) (fun c9 => absurd (by decide) c9) (fun _ => ?_)
          refine lv_iload_n hx hb gX12_shelf_9.2.2.2.1 rfl (lv_at4 hl) ?_
          refine lv_iconst (v := 3) hx hb gX12_shelf_9.2.2.2.2.1 (by decide) ?_
          refine lv_icmp_ge (tgt := 178) hx hb gX12_shelf_9.2.2.2.2.2.1 (by decide) (fun c9 => absurd c9 (by decide)) (fun _ => ?_)
          refine lv_iconst (v := 0) hx hb gX12_shelf_9.2.2.2.2.2.2.1 (by decide) ?_
          refine lv_goto (tgt := 184) hx hb gX12_shelf_9.2.2.2.2.2.2.2.1 (by decide) ?_
          refine astN hC hK hP hD hS 6 (ws' := [(h0, oX12 nw nk mhasKept nt mtaped nr mrowMany mroundOf mroundFrom mouts nm mfromHour mtoHour ns mfrom mto msort misFault mdeep mcoded mlines nl nc nF np ntr nb mbestCost nso nsi nit nsh nsf nss nrc mtraced mdealer mnumber mwhose msize misParted), (nw, iA G 1662 fnw), (nso, iA G 4 fnso), (nsi, iA G 4 fnsi), (nsh, iA G 4 (upd fnsh js 1)), (nsf, iA G 4 (upd fnsf js x3)), (nss, iA G 4 (upd fnss js 0))]) rfl (k := js) (by omega) (Nat.le_of_ble_eq_true rfl) (rfl) gX12_shelf_10.2.2.1 (fun H locs hP hD hS => ?_)
          refine lv_iconst (v := 1) hx hb gX12_shelf_10.2.2.2.1 (by decide) ?_
          refine toQ hQ0 ?_
          exact RI (v := 1) hC hP hD hS [0, 1, 2, 3, 4, 5, 6] (upd fnsh js 1, upd fnsf js x3, upd fnss js 0) rfl rfl (by decide) (⟨(by unfold SHX; first | rfl | (simp only [ifc_t ekq, ifc_t ek8, ifc_t ek9, ifc_t hkq, ifc_t hk8, ifc_t hk9, ifc_t a6474, ifc_t a6476, ifc_t a6478, ifc_t trivial, ifc_f (q := False) (fun h9 => h9), ifc_t (q := (0 : Int32) = 0) rfl, ifc_f (q := (0 : Int32) = 1) (by decide), ifc_f (q := (0 : Int32) = 2) (by decide), ifc_f (q := (0 : Int32) = 3) (by decide), ifc_f (q := (0 : Int32) = 4) (by decide)]; done) | (simp only [ifc_t ekq, ifc_t ek8, ifc_t ek9, ifc_t hkq, ifc_t hk8, ifc_t hk9, ifc_t a6474, ifc_t a6476, ifc_t a6478, ifc_t trivial, ifc_f (q := False) (fun h9 => h9), ifc_t (q := (0 : Int32) = 0) rfl, ifc_f (q := (0 : Int32) = 1) (by decide), ifc_f (q := (0 : Int32) = 2) (by decide), ifc_f (q := (0 : Int32) = 3) (by decide), ifc_f (q := (0 : Int32) = 4) (by decide)]; rfl)), ⟨fun _ => ⟨1, x3, 0, (by rw [nI_clamp (n := js) (by omega)]; exact ⟨rfl, rfl, rfl, ⟨fun h9 => absurd h9 (by decide), fun h9 => absurd h9 (by decide), fun _ => ⟨by decide, rfl⟩⟩⟩)⟩, fun h9 => absurd (by unfold SHX; simp only [ifc_t ekq, ifc_t ek8, ifc_t ek9, ifc_t hkq, ifc_t hk8, ifc_t hk9, ifc_t a6474, ifc_t a6476, ifc_t a6478, ifc_t trivial, ifc_f (q := False) (fun h9 => h9), ifc_t (q := (0 : Int32) = 0) rfl, ifc_f (q := (0 : Int32) = 1) (by decide), ifc_f (q := (0 : Int32) = 2) (by decide), ifc_f (q := (0 : Int32) = 3) (by decide), ifc_f (q := (0 : Int32) = 4) (by decide)]) h9⟩⟩) rfl gX12_shelf_10.2.2.2.2
        · exact absurd (by unfold Wi; decide) a6478
      · refine lv_if_eq (tgt := 83) hx hb gX12_shelf_3.2.2.2.2.2.1 (by decide) (fun _ => ?_) (fun c9 => absurd (by decide) c9)
        refine lv_iconst (v := (-1)) hx hb gX12_shelf_4.2.2.2.1 (by decide) ?_
        refine toQ hQ0 ?_
        exact RI (v := (-1)) hC hP hD hS [0, 1, 2, 3, 4, 5, 6] (fnsh, fnsf, fnss) rfl rfl (by decide) (⟨(by unfold SHX; first | rfl | (simp only [ifc_t ekq, ifc_t ek8, ifc_t ek9, ifc_t hkq, ifc_t hk8, ifc_t hk9, ifc_t a6474, ifc_f a6476, ifc_t trivial, ifc_f (q := False) (fun h9 => h9), ifc_t (q := (0 : Int32) = 0) rfl, ifc_f (q := (0 : Int32) = 1) (by decide), ifc_f (q := (0 : Int32) = 2) (by decide), ifc_f (q := (0 : Int32) = 3) (by decide), ifc_f (q := (0 : Int32) = 4) (by decide)]; done) | (simp only [ifc_t ekq, ifc_t ek8, ifc_t ek9, ifc_t hkq, ifc_t hk8, ifc_t hk9, ifc_t a6474, ifc_f a6476, ifc_t trivial, ifc_f (q := False) (fun h9 => h9), ifc_t (q := (0 : Int32) = 0) rfl, ifc_f (q := (0 : Int32) = 1) (by decide), ifc_f (q := (0 : Int32) = 2) (by decide), ifc_f (q := (0 : Int32) = 3) (by decide), ifc_f (q := (0 : Int32) = 4) (by decide)]; rfl)), ⟨fun h9 => absurd ((show SHX x1 0 x3 kq k8 k9 = (-1) from by unfold SHX; simp only [ifc_t ekq, ifc_t ek8, ifc_t ek9, ifc_t hkq, ifc_t hk8, ifc_t hk9, ifc_t a6474, ifc_f a6476, ifc_t trivial, ifc_f (q := False) (fun h9 => h9), ifc_t (q := (0 : Int32) = 0) rfl, ifc_f (q := (0 : Int32) = 1) (by decide), ifc_f (q := (0 : Int32) = 2) (by decide), ifc_f (q := (0 : Int32) = 3) (by decide), ifc_f (q := (0 : Int32) = 4) (by decide)]).symm.trans h9) (by decide), fun _ => ⟨rfl, rfl, rfl⟩⟩⟩) rfl gX12_shelf_4.2.2.2.2.1
    · refine lv_goto (tgt := 60) hx hb gX12_shelf_0.2.2.2.2.2.2.1 (by decide) ?_
      refine lv_istore (lv' := [(4, .int 0), (0, .ref h0), (1, .int x1), (2, .int 0), (3, .int x3)]) hx hb gX12_shelf_3.2.2.1 hl (by decide) rfl (fun ls hl => ?_)
      refine lv_iload_n hx hb gX12_shelf_3.2.2.2.1 rfl (lv_at2 hl) ?_
      refine pS hC hK hl (m_isFour l G x1) si_X12_336 rfl rfl (Nat.le_of_ble_eq_true rfl) rm_3_2_1 ⟨by first | exact Nat.le_of_ble_eq_true rfl | exact Nat.zero_le _, by first | exact Nat.le_of_ble_eq_true rfl | exact Nat.zero_le _⟩ gX12_shelf_3.2.2.2.2.1 (Kors (Keqa fun a6480 => ?_) (Keqa fun a6480 => ?_))
      · refine lv_if_eq (tgt := 83) hx hb gX12_shelf_3.2.2.2.2.2.1 (by decide) (fun c9 => absurd c9 (by decide)) (fun _ => ?_)
        refine lv_iload_n hx hb gX12_shelf_3.2.2.2.2.2.2.1 rfl (lv_at3 hl) ?_
        refine lv_iconst (v := 0) hx hb gX12_shelf_3.2.2.2.2.2.2.2.1 (by decide) ?_
        refine lv_iconst (v := 4) hx hb gX12_shelf_3.2.2.2.2.2.2.2.2.1 (by decide) ?_
        refine pS hC hK hl (m_within l G 0 0 4) si_X12_84 rfl rfl (Nat.le_of_ble_eq_true rfl) rm_3_1_3 ⟨by first | exact Nat.le_of_ble_eq_true rfl | exact Nat.zero_le _, by first | exact Nat.le_of_ble_eq_true rfl | exact Nat.zero_le _⟩ gX12_shelf_3.2.2.2.2.2.2.2.2.2 (Kors (Keqa fun a6482 => ?_) (Keqa fun a6482 => ?_))
        · refine lv_if_eq (tgt := 83) hx hb gX12_shelf_4.1 (by decide) (fun c9 => absurd c9 (by decide)) (fun _ => ?_)
          refine lv_iload hx hb gX12_shelf_4.2.1 (lv_at0 hl) ?_
          refine lv_if_ne (tgt := 85) hx hb gX12_shelf_4.2.2.1 (by decide) (fun c9 => absurd (by decide) c9) (fun _ => ?_)
          refine lv_iconst (v := (-1)) hx hb gX12_shelf_4.2.2.2.1 (by decide) ?_
          refine toQ hQ0 ?_
          exact RI (v := (-1)) hC hP hD hS [0, 1, 2, 3, 4, 5, 6] (fnsh, fnsf, fnss) rfl rfl (by decide) (⟨(by unfold SHX; first | rfl | (simp only [ifc_t ekq, ifc_t ek8, ifc_t ek9, ifc_t hkq, ifc_t hk8, ifc_t hk9, ifc_f a6474, ifc_t a6480, ifc_t a6482, ifc_t trivial, ifc_f (q := False) (fun h9 => h9), ifc_t (q := (0 : Int32) = 0) rfl, ifc_f (q := (0 : Int32) = 1) (by decide), ifc_f (q := (0 : Int32) = 2) (by decide), ifc_f (q := (0 : Int32) = 3) (by decide), ifc_f (q := (0 : Int32) = 4) (by decide)]; done) | (simp only [ifc_t ekq, ifc_t ek8, ifc_t ek9, ifc_t hkq, ifc_t hk8, ifc_t hk9, ifc_f a6474, ifc_t a6480, ifc_t a6482, ifc_t trivial, ifc_f (q := False) (fun h9 => h9), ifc_t (q := (0 : Int32) = 0) rfl, ifc_f (q := (0 : Int32) = 1) (by decide), ifc_f (q := (0 : Int32) = 2) (by decide), ifc_f (q := (0 : Int32) = 3) (by decide), ifc_f (q := (0 : Int32) = 4) (by decide)]; rfl)), ⟨fun h9 => absurd ((show SHX x1 0 x3 kq k8 k9 = (-1) from by unfold SHX; simp only [ifc_t ekq, ifc_t ek8, ifc_t ek9, ifc_t hkq, ifc_t hk8, ifc_t hk9, ifc_f a6474, ifc_t a6480, ifc_t a6482, ifc_t trivial, ifc_f (q := False) (fun h9 => h9), ifc_t (q := (0 : Int32) = 0) rfl, ifc_f (q := (0 : Int32) = 1) (by decide), ifc_f (q := (0 : Int32) = 2) (by decide), ifc_f (q := (0 : Int32) = 3) (by decide), ifc_f (q := (0 : Int32) = 4) (by decide)]).symm.trans h9) (by decide), fun _ => ⟨rfl, rfl, rfl⟩⟩⟩) rfl gX12_shelf_4.2.2.2.2.1
        · exact absurd (by unfold Wi; decide) a6482
      · refine lv_if_eq (tgt := 83) hx hb gX12_shelf_3.2.2.2.2.2.1 (by decide) (fun _ => ?_) (fun c9 => absurd (by decide) c9)
        refine lv_iconst (v := (-1)) hx hb gX12_shelf_4.2.2.2.1 (by decide) ?_
        refine toQ hQ0 ?_
        exact RI (v := (-1)) hC hP hD hS [0, 1, 2, 3, 4, 5, 6] (fnsh, fnsf, fnss) rfl rfl (by decide) (⟨(by unfold SHX; first | rfl | (simp only [ifc_t ekq, ifc_t ek8, ifc_t ek9, ifc_t hkq, ifc_t hk8, ifc_t hk9, ifc_f a6474, ifc_f a6480, ifc_t trivial, ifc_f (q := False) (fun h9 => h9), ifc_t (q := (0 : Int32) = 0) rfl, ifc_f (q := (0 : Int32) = 1) (by decide), ifc_f (q := (0 : Int32) = 2) (by decide), ifc_f (q := (0 : Int32) = 3) (by decide), ifc_f (q := (0 : Int32) = 4) (by decide)]; done) | (simp only [ifc_t ekq, ifc_t ek8, ifc_t ek9, ifc_t hkq, ifc_t hk8, ifc_t hk9, ifc_f a6474, ifc_f a6480, ifc_t trivial, ifc_f (q := False) (fun h9 => h9), ifc_t (q := (0 : Int32) = 0) rfl, ifc_f (q := (0 : Int32) = 1) (by decide), ifc_f (q := (0 : Int32) = 2) (by decide), ifc_f (q := (0 : Int32) = 3) (by decide), ifc_f (q := (0 : Int32) = 4) (by decide)]; rfl)), ⟨fun h9 => absurd ((show SHX x1 0 x3 kq k8 k9 = (-1) from by unfold SHX; simp only [ifc_t ekq, ifc_t ek8, ifc_t ek9, ifc_t hkq, ifc_t hk8, ifc_t hk9, ifc_f a6474, ifc_f a6480, ifc_t trivial, ifc_f (q := False) (fun h9 => h9), ifc_t (q := (0 : Int32) = 0) rfl, ifc_f (q := (0 : Int32) = 1) (by decide), ifc_f (q := (0 : Int32) = 2) (by decide), ifc_f (q := (0 : Int32) = 3) (by decide), ifc_f (q := (0 : Int32) = 4) (by decide)]).symm.trans h9) (by decide), fun _ => ⟨rfl, rfl, rfl⟩⟩⟩) rfl gX12_shelf_4.2.2.2.2.1
