section WR
variable {p : Program} {l : Launch} {e : Env} {R : Room} {s : State} {m : MethodId} {args : Array Value} {below : List Frame} {meth : Method} {c : Code} {H : Heap} {locs : List Loc} {cells slots : Nat} {Q : State → Prop}
variable {pc : Nat} {ls : Array Slot} {rest : List Value} {G : GG} {ws : va_W} {A : Nat → Prop} {y0 : MethodName} {b0 : ByteArray} {mL0 : Nat} {rt0 : Option FieldType} {a : Nat} {H0 : Heap}
end WR
theorem shf_st {f : Nat → Int32} {s c : Nat} : shf f 104 (s * 3 + c) = f (104 + 3 * s + c) := congrArg f (by omega)
theorem cntS_mono {f : Nat → Int32} {p : Int32} {s n : Nat} (h : s ≤ n) : cntS f p s ≤ cntS f p n := by
  induction n with
  | zero =>
    obtain rfl : s = 0 := by omega
    exact Nat.le_refl _
  | succ n ih =>
    by_cases c : s = n + 1
    · subst c
      exact Nat.le_refl _
    · have h1 := ih (by omega)
      by_cases d : f (104 + 3 * n) = p
      · rw [cntS_t d]
        omega
      · rw [cntS_f d]
        exact h1
theorem cntS_lt {f : Nat → Int32} {p : Int32} {s n : Nat} (h : s < n) (e : f (104 + 3 * s) = p) : cntS f p s < cntS f p n := by
  have h1 := cntS_mono (f := f) (p := p) (show s + 1 ≤ n by omega)
  rw [cntS_t e] at h1
  omega
/-- the i-th stamp of a paper -/
def STQ (f : Nat → Int32) (p k i s : Nat) : Prop := s < k ∧ f (104 + 3 * s) = nI p ∧ cntS f (nI p) s = i
theorem STQ.uniq {f : Nat → Int32} {p k i a b : Nat} (h1 : STQ f p k i a) (h2 : STQ f p k i b) : a = b := by
  have e1 := h1.2.2
  have e2 := h2.2.2
  rcases Nat.lt_trichotomy a b with c | c | c
  · have h3 := cntS_lt c h1.2.1
    omega
  · exact c
  · have h3 := cntS_lt c h2.2.1
    omega
theorem STQ.prc {f : Nat → Int32} {V : Nat → Prop} {p k i a b : Nat} (h1 : STQ f p k (i - 1) a) (h2 : STQ f p k i b) (hi : 1 ≤ i) (hp : p < 2 ^ 31) (hv : V p) : PRC (shf f 104) V a b := by
  obtain ⟨a1, a2, a3⟩ := h1
  obtain ⟨b1, b2, b3⟩ := h2
  have ea : shf f 104 (a * 3 + 0) = nI p := (shf_st (f := f) (s := a) (c := 0)).trans a2
  have eb : shf f 104 (b * 3 + 0) = nI p := (shf_st (f := f) (s := b) (c := 0)).trans b2
  refine ⟨?_, ea.trans eb.symm, by rw [eb, nI_clamp hp]; exact hv, fun s h3 h4 e => ?_⟩
  · by_cases c : a < b
    · exact c
    · have h5 := cntS_mono (f := f) (p := nI p) (show b ≤ a by omega)
      omega
  · have es : f (104 + 3 * s) = nI p := (shf_st (f := f) (s := s) (c := 0)).symm.trans (e.trans eb)
    have h5 := cntS_lt h3 a2
    have h6 := cntS_lt h4 es
    omega
theorem cntS_gap {f : Nat → Int32} {p : Int32} {a : Nat} : ∀ d, (∀ s, a < s → s < a + 1 + d → ¬ f (104 + 3 * s) = p) → f (104 + 3 * a) = p → cntS f p (a + 1 + d) = cntS f p a + 1
  | 0, _, e => cntS_t e
  | d + 1, h, e => by
    have h1 := cntS_gap d (fun s h1 h2 => h s h1 (by omega)) e
    have h2 := cntS_f (f := f) (p := p) (n := a + 1 + d) (h (a + 1 + d) (by omega) (by omega))
    exact h2.trans h1
theorem PRC.stq {f : Nat → Int32} {V : Nat → Prop} {p k a b : Nat} (h : PRC (shf f 104) V a b) (e : f (104 + 3 * b) = nI p) (hb : b < k) : ∃ i, 1 ≤ i ∧ STQ f p k (i - 1) a ∧ STQ f p k i b := by
  obtain ⟨h1, h2, -, h4⟩ := h
  have eb : shf f 104 (b * 3 + 0) = nI p := (shf_st (f := f) (s := b) (c := 0)).trans e
  have ea : f (104 + 3 * a) = nI p := (shf_st (f := f) (s := a) (c := 0)).symm.trans (h2.trans eb)
  have hc := cntS_gap (f := f) (p := nI p) (a := a) (b - (a + 1)) (fun s h5 h6 h7 => h4 s h5 (by omega) (((shf_st (f := f) (s := s) (c := 0)).trans h7).trans eb.symm)) ea
  rw [show a + 1 + (b - (a + 1)) = b by omega] at hc
  exact ⟨cntS f (nI p) a + 1, by omega, ⟨by omega, ea, by omega⟩, ⟨hb, e, hc⟩⟩
def GPRm (g : Int32) : Prop := 0 ≤ g.toInt ∧ g.toInt ≤ 99
/-- what two stamps bind, either way -/
def TWO (ft : Nat → Int32) (gp : Int) (a b x y : Nat) (w : Int) : Prop := (x = CKS ft a ∧ y = CKS ft b ∧ w = HRS ft b - HRS ft a) ∨ (x = CKS ft b ∧ y = CKS ft a ∧ w = gp - (HRS ft b - HRS ft a))
/-- what the papers below p, and of p the stamps below i, bind -/
def KCV (f : Nat → Int32) (V : Nat → Prop) (gp : Int) (k p i : Nat) : Nat → Nat → Int → Prop := fun x y w => KB x y w ∨ ∃ q j a b, (q < p ∨ (q = p ∧ j < i)) ∧ 1 ≤ j ∧ V q ∧ STQ f q k (j - 1) a ∧ STQ f q k j b ∧ TWO (shf f 104) gp a b x y w
/-- bounds of which some are taken in, none of them too narrow -/
def PHI (K C : Nat → Nat → Int → Prop) (M : Nat → Nat → Int) : Prop := (∀ x y w, C x y w → x < 6 ∧ y < 6 ∧ M x y ≤ w) ∧ (∀ g, SAT K g → ∀ a b, a < 6 → b < 6 → g b - g a ≤ M a b) ∧ (∀ a b, a < 6 → b < 6 → -1000 ≤ M a b ∧ M a b ≤ 120) ∧ (∀ a, a < 6 → M a a ≤ 0)
theorem PHI.mono {K C D : Nat → Nat → Int → Prop} {M : Nat → Nat → Int} (h : PHI K C M) (hs : ∀ x y w, D x y w → C x y w) : PHI K D M := ⟨fun x y w hd => h.1 x y w (hs x y w hd), h.2⟩
theorem PHI.base {f : Nat → Int32} {V : Nat → Prop} {gp : Int} {k : Nat} {K : Nat → Nat → Int → Prop} {M : Nat → Nat → Int} (h : FRP 6 0 M) (hK : BAS K) : PHI K (KCV f V gp k 0 1) M := by
  have e : ∀ a b, a < 6 → b < 6 → M a b = BASW a b := fun a b ha hb => h a b ha hb (by omega)
  refine ⟨fun x y w hc => ?_, fun g hg a b ha hb => ?_, fun a b ha hb => ?_, fun a ha => ?_⟩
  · rcases hc with ⟨h1, h2, h3⟩ | ⟨q, j, a, b, h1, h2, -⟩
    · refine ⟨h1, h2, ?_⟩
      rw [e x y h1 h2, h3]
      exact Int.le_refl _
    · omega
  · rw [e a b ha hb]
    exact hg a b _ (hK a b ha hb)
  · rw [e a b ha hb]
    have h1 := BASW.le (a := a) (b := b)
    omega
  · rw [e a a ha ha]
    unfold BASW
    rw [if_pos rfl]
    exact Int.le_refl _
theorem PHI.paper {f : Nat → Int32} {V : Nat → Prop} {gp : Int} {k p i : Nat} {K : Nat → Nat → Int → Prop} {M : Nat → Nat → Int} (h : PHI K (KCV f V gp k p i) M) (hn : V p → cntS f (nI p) k ≤ i) : PHI K (KCV f V gp k (p + 1) 1) M := by
  refine h.mono fun x y w hc => ?_
  rcases hc with hc | ⟨q, j, a, b, h1, h2, h3, h4, h5, h6⟩
  · exact Or.inl hc
  · refine Or.inr ⟨q, j, a, b, ?_, h2, h3, h4, h5, h6⟩
    by_cases c : q = p
    · have h7 := hn (c ▸ h3)
      have h8 := cntS_lt h5.1 h5.2.1
      have h9 := h5.2.2
      rw [c] at h8 h9
      exact Or.inr ⟨c, by omega⟩
    · exact Or.inl (by omega)
/-- a bound more -/
def MNI (M : Nat → Nat → Int) (x y : Nat) (w : Int) : Nat → Nat → Int := fun a b => if a = x ∧ b = y ∧ w < M a b then w else M a b
theorem MNI.le {M : Nat → Nat → Int} {x y : Nat} {w : Int} {a b : Nat} : MNI M x y w a b ≤ M a b := by
  unfold MNI
  split
  · omega
  · omega
theorem MNI.hit {M : Nat → Nat → Int} {x y : Nat} {w : Int} : MNI M x y w x y ≤ w := by
  unfold MNI
  by_cases c : w < M x y
  · rw [if_pos ⟨rfl, rfl, c⟩]
    exact Int.le_refl _
  · rw [if_neg (fun h => c h.2.2)]
    omega
theorem MNI.or {M : Nat → Nat → Int} {x y : Nat} {w : Int} {a b : Nat} : MNI M x y w a b = M a b ∨ (a = x ∧ b = y ∧ MNI M x y w a b = w) := by
  unfold MNI
  by_cases c : a = x ∧ b = y ∧ w < M a b
  · exact Or.inr ⟨c.1, c.2.1, if_pos c⟩
  · exact Or.inl (if_neg c)
theorem PHI.put {K C : Nat → Nat → Int → Prop} {M N : Nat → Nat → Int} {x y : Nat} {w : Int} (h : PHI K C M) (hk : K x y w) (hw : -1000 ≤ w) (hx : x < 6) (hy : y < 6) (hN : ∀ a b, a < 6 → b < 6 → N a b = MNI M x y w a b) : PHI K (KAD C x y w) N := by
  obtain ⟨h1, h2, h3, h4⟩ := h
  have hle : ∀ a b, a < 6 → b < 6 → N a b ≤ M a b := fun a b ha hb => by
    rw [hN a b ha hb]
    exact MNI.le
  refine ⟨fun x1 y1 w1 hc => ?_, fun g hg a b ha hb => ?_, fun a b ha hb => ?_, fun a ha => ?_⟩
  · rcases hc with hc | ⟨e1, e2, e3⟩
    · obtain ⟨q1, q2, q3⟩ := h1 x1 y1 w1 hc
      have q4 := hle x1 y1 q1 q2
      exact ⟨q1, q2, by omega⟩
    · have q5 := MNI.hit (M := M) (x := x) (y := y) (w := w)
      rw [← hN x y hx hy] at q5
      rw [e1, e2, e3]
      exact ⟨hx, hy, q5⟩
  · have q1 := h2 g hg a b ha hb
    have q2 := hg x y w hk
    rw [hN a b ha hb]
    rcases MNI.or (M := M) (x := x) (y := y) (w := w) (a := a) (b := b) with e | ⟨e1, e2, e⟩
    · rw [e]
      exact q1
    · rw [e, e1, e2]
      exact q2
  · have q1 := h3 a b ha hb
    have q2 := hle a b ha hb
    have q3 := hN a b ha hb
    rcases MNI.or (M := M) (x := x) (y := y) (w := w) (a := a) (b := b) with e | ⟨e1, e2, e⟩ <;> omega
  · have q1 := h4 a ha
    have q2 := hle a a ha ha
    omega
theorem PHI.step {f : Nat → Int32} {V : Nat → Prop} {gp : Int} {k p i a b : Nat} {M N O : Nat → Nat → Int} (h : PHI (KST (shf f 104) V gp k) (KCV f V gp k p i) M) (ha : STQ f p k (i - 1) a) (hb : STQ f p k i b) (hi : 1 ≤ i) (hp : p < 2 ^ 31) (hv : V p) (ca : CKS (shf f 104) a < 6) (cb : CKS (shf f 104) b < 6) (l1 : -1000 ≤ HRS (shf f 104) b - HRS (shf f 104) a) (l2 : -1000 ≤ gp - (HRS (shf f 104) b - HRS (shf f 104) a))
    (hN : ∀ x y, x < 6 → y < 6 → N x y = MNI M (CKS (shf f 104) a) (CKS (shf f 104) b) (HRS (shf f 104) b - HRS (shf f 104) a) x y) (hO : ∀ x y, x < 6 → y < 6 → O x y = MNI N (CKS (shf f 104) b) (CKS (shf f 104) a) (gp - (HRS (shf f 104) b - HRS (shf f 104) a)) x y) : PHI (KST (shf f 104) V gp k) (KCV f V gp k p (i + 1)) O := by
  have hpr := ha.prc hb hi hp hv
  have s1 := h.put (Or.inr ⟨a, b, hb.1, hpr, Or.inl ⟨rfl, rfl, rfl⟩⟩) l1 ca cb hN
  have s2 := s1.put (Or.inr ⟨a, b, hb.1, hpr, Or.inr ⟨rfl, rfl, rfl⟩⟩) l2 cb ca hO
  refine s2.mono fun x y w hc => ?_
  rcases hc with hc | ⟨q, j, a1, b1, h1, h2, h3, h4, h5, h6⟩
  · exact Or.inl (Or.inl (Or.inl hc))
  · by_cases c : q = p ∧ j = i
    · rw [c.1, c.2] at h4 h5
      rw [h4.uniq ha, h5.uniq hb] at h6
      rcases h6 with h6 | h6
      · exact Or.inl (Or.inr h6)
      · exact Or.inr h6
    · exact Or.inl (Or.inl (Or.inr ⟨q, j, a1, b1, by omega, h2, h3, h4, h5, h6⟩))
theorem PHI.all {f : Nat → Int32} {V : Nat → Prop} {gp : Int} {k n : Nat} {M : Nat → Nat → Int} (h : PHI (KST (shf f 104) V gp k) (KCV f V gp k n 1) M) (hV : ∀ q, V q → q < n) (hP : ∀ s, s < k → ∃ p, p < 12 ∧ f (104 + 3 * s) = nI p) : PHI (KST (shf f 104) V gp k) (KST (shf f 104) V gp k) M := by
  refine h.mono fun x y w hc => ?_
  rcases hc with hc | ⟨a, b, h1, h2, h3⟩
  · exact Or.inl hc
  · obtain ⟨p, hp, e⟩ := hP b h1
    have hv := h2.2.2.1
    rw [(shf_st (f := f) (s := b) (c := 0)).trans e, nI_clamp (by omega)] at hv
    obtain ⟨i, hi, ha, hb⟩ := h2.stq e h1
    exact Or.inr ⟨p, i, a, b, Or.inl (hV p hv), hi, hv, ha, hb, h3⟩
/-- how deep the bounds may go behind m clocks -/
def LB : Nat → Int
  | 0 => -1000
  | m + 1 => 6 * LB m
theorem LB.neg : ∀ m, LB m ≤ -1000
  | 0 => Int.le_refl _
  | m + 1 => by
    have h := LB.neg m
    show 6 * LB m ≤ -1000
    omega
theorem LB.lim {m : Nat} (h : m < 6) : -10000000 ≤ LB m := by
  rcases (show m = 0 ∨ m = 1 ∨ m = 2 ∨ m = 3 ∨ m = 4 ∨ m = 5 by omega) with rfl | rfl | rfl | rfl | rfl | rfl <;> decide +kernel
/-- how deep they go on the way from m to m + 1 -/
def LBP (m i j : Nat) (M : Nat → Nat → Int) : Prop := ∀ a b, a < 6 → b < 6 → M a b ≤ 120 ∧ 6 * LB m ≤ M a b ∧ (a = m ∨ b = m → 3 * LB m ≤ M a b) ∧ (a = m ∧ b = m → 2 * LB m ≤ M a b) ∧ (¬ (a < i ∨ (a = i ∧ b < j)) → LB m ≤ M a b)
def FWS (K : Nat → Nat → Int → Prop) (m i j : Nat) (M0 M : Nat → Nat → Int) : Prop := LBP m i j M ∧ ((NOS K ∧ ∃ a, a < 6 ∧ M a a < 0) ∨ (FWI K m M0 ∧ ∀ a b, a < 6 → b < 6 → M a b = if a < i ∨ (a = i ∧ b < j) then PHA m M0 a b else M0 a b))
def FWT (K : Nat → Nat → Int → Prop) (m : Nat) (M : Nat → Nat → Int) : Prop := (∀ a b, a < 6 → b < 6 → LB m ≤ M a b ∧ M a b ≤ 120) ∧ ((NOS K ∧ ∃ a, a < 6 ∧ M a a < 0) ∨ FWI K m M)
theorem FWI.ext {K : Nat → Nat → Int → Prop} {m : Nat} {M N : Nat → Nat → Int} (h : FWI K m M) (hm : m ≤ 6) (e : ∀ a b, a < 6 → b < 6 → N a b = M a b) : FWI K m N := by
  obtain ⟨h1, h2, h3, h4⟩ := h
  refine ⟨fun a ha => (e a a ha ha).trans (h1 a ha), fun s a b hs ha hb => ?_, fun x y w hk => ?_, fun g hg a b ha hb => ?_⟩
  · rw [e a b ha hb, e a s ha (by omega), e s b (by omega) hb]
    exact h2 s a b hs ha hb
  · obtain ⟨hx, hy, hw⟩ := h3 x y w hk
    refine ⟨hx, hy, ?_⟩
    rw [e x y hx hy]
    exact hw
  · rw [e a b ha hb]
    exact h4 g hg a b ha hb
theorem FWT.of {K : Nat → Nat → Int → Prop} {M : Nat → Nat → Int} (h : PHI K K M) : FWT K 0 M := by
  obtain ⟨h1, h2, h3, h4⟩ := h
  refine ⟨fun a b ha hb => h3 a b ha hb, ?_⟩
  by_cases c : ∃ a, a < 6 ∧ M a a < 0
  · refine Or.inl ⟨fun g hg => ?_, c⟩
    obtain ⟨a, ha, hn⟩ := c
    have h5 := h2 g hg a a ha ha
    omega
  · refine Or.inr ⟨fun a ha => ?_, fun s a b hs => absurd hs (Nat.not_lt_zero s), h1, h2⟩
    have h5 := h4 a ha
    by_cases d : M a a < 0
    · exact absurd ⟨a, ha, d⟩ c
    · omega
theorem FWT.to {K : Nat → Nat → Int → Prop} {m : Nat} {M : Nat → Nat → Int} (h : FWT K m M) : FWS K m 0 0 M M := by
  have n0 := LB.neg m
  refine ⟨fun a b ha hb => ?_, ?_⟩
  · have q := h.1 a b ha hb
    exact ⟨q.2, by omega, fun _ => by omega, fun _ => by omega, fun _ => q.1⟩
  · rcases h.2 with h9 | h9
    · exact Or.inl h9
    · refine Or.inr ⟨h9, fun a b ha hb => ?_⟩
      rw [if_neg (by omega)]
theorem FWS.row {K : Nat → Nat → Int → Prop} {m i : Nat} {M0 M : Nat → Nat → Int} (h : FWS K m i 6 M0 M) : FWS K m (i + 1) 0 M0 M := by
  refine ⟨fun a b ha hb => ?_, ?_⟩
  · obtain ⟨q1, q2, q3, q4, q5⟩ := h.1 a b ha hb
    exact ⟨q1, q2, q3, q4, fun q6 => q5 (by omega)⟩
  · rcases h.2 with h9 | ⟨h8, h9⟩
    · exact Or.inl h9
    · refine Or.inr ⟨h8, fun a b ha hb => ?_⟩
      rw [h9 a b ha hb]
      by_cases c : a < i ∨ (a = i ∧ b < 6)
      · rw [if_pos c, if_pos (by omega)]
      · rw [if_neg c, if_neg (by omega)]
theorem FWS.put {K : Nat → Nat → Int → Prop} {m i j : Nat} {M0 M N : Nat → Nat → Int} (h : FWS K m i j M0 M) (hm : m < 6) (hi : i < 6) (hj : j < 6) (hN : ∀ a b, a < 6 → b < 6 → N a b = MNI M i j (M i m + M m j) a b) : FWS K m i (j + 1) M0 N := by
  obtain ⟨h1, h2⟩ := h
  have n0 := LB.neg m
  refine ⟨fun a b ha hb => ?_, ?_⟩
  · obtain ⟨q1, q2, q3, q4, q5⟩ := h1 a b ha hb
    have q6 := hN a b ha hb
    have q7 := MNI.le (M := M) (x := i) (y := j) (w := M i m + M m j) (a := a) (b := b)
    rcases MNI.or (M := M) (x := i) (y := j) (w := M i m + M m j) (a := a) (b := b) with e | ⟨ea, eb, e⟩
    · have e9 : N a b = M a b := q6.trans e
      rw [e9]
      exact ⟨q1, q2, q3, q4, fun q8 => q5 (by omega)⟩
    · have e9 : N a b = M i m + M m j := q6.trans e
      obtain ⟨-, u2, u3, u4, u5⟩ := h1 i m hi hm
      obtain ⟨-, v2, v3, v4, v5⟩ := h1 m j hm hj
      have u6 := u3 (Or.inr rfl)
      have v6 := v3 (Or.inl rfl)
      refine ⟨by omega, by omega, fun q8 => ?_, fun q8 => ?_, fun q8 => absurd (Or.inr ⟨ea, by omega⟩) q8⟩
      · rw [e9]
        by_cases ci : i = m
        · by_cases cj : j = m
          · have u7 := u5 (by omega)
            have v7 := v5 (by omega)
            omega
          · have u7 := u4 ⟨ci, rfl⟩
            have v7 := v5 (by omega)
            omega
        · have cj : j = m := by omega
          have u7 := u5 (by omega)
          have v7 := v4 ⟨rfl, cj⟩
          omega
      · rw [e9]
        have u7 := u5 (by omega)
        have v7 := v5 (by omega)
        omega
  · rcases h2 with ⟨hn, a, ha, hx⟩ | ⟨hf, he⟩
    · refine Or.inl ⟨hn, a, ha, ?_⟩
      have q7 := MNI.le (M := M) (x := i) (y := j) (w := M i m + M m j) (a := a) (b := a)
      rw [hN a a ha ha]
      omega
    · refine Or.inr ⟨hf, fun a b ha hb => ?_⟩
      have e1 : M i m = M0 i m := by
        rw [he i m hi hm]
        split
        · exact PHA.col (hf.1 m hm)
        · rfl
      have e2 : M m j = M0 m j := by
        rw [he m j hm hj]
        split
        · exact PHA.row (hf.1 m hm)
        · rfl
      have e0 := he a b ha hb
      rw [hN a b ha hb, e1, e2]
      by_cases c : a = i ∧ b = j
      · rw [if_neg (by omega)] at e0
        rw [if_pos (show a < i ∨ (a = i ∧ b < j + 1) from Or.inr ⟨c.1, by omega⟩)]
        rw [c.1, c.2] at e0 ⊢
        unfold MNI PHA
        rw [e0]
        by_cases d : M0 i m + M0 m j < M0 i j
        · rw [if_pos ⟨rfl, rfl, d⟩, if_pos d]
        · rw [if_neg (fun h9 => d h9.2.2), if_neg d]
      · have e9 : MNI M i j (M0 i m + M0 m j) a b = M a b := if_neg (fun h9 => c ⟨h9.1, h9.2.1⟩)
        rw [e9, e0]
        by_cases d : a < i ∨ (a = i ∧ b < j)
        · rw [if_pos d, if_pos (by omega)]
        · rw [if_neg d, if_neg (by omega)]
theorem FWS.fin {K : Nat → Nat → Int → Prop} {m : Nat} {M0 M : Nat → Nat → Int} (h : FWS K m 6 0 M0 M) (hm : m < 6) : FWT K (m + 1) M := by
  refine ⟨fun a b ha hb => ?_, ?_⟩
  · obtain ⟨q1, q2, -⟩ := h.1 a b ha hb
    exact ⟨q2, q1⟩
  · rcases h.2 with h9 | ⟨hf, he⟩
    · exact Or.inl h9
    · have he2 : ∀ a b, a < 6 → b < 6 → M a b = PHA m M0 a b := fun a b ha hb => by
        rw [he a b ha hb, if_pos (Or.inl ha)]
      by_cases c : ∃ a, a < 6 ∧ M a a < 0
      · refine Or.inl ⟨fun g hg => ?_, c⟩
        obtain ⟨a, ha, hx⟩ := c
        have h1 := hf.pha hm g hg ha ha
        rw [← he2 a a ha ha] at h1
        omega
      · refine Or.inr ((hf.next hm fun a ha => ?_).ext (by omega) he2)
        rw [← he2 a a ha ha]
        by_cases d : M a a < 0
        · exact absurd ⟨a, ha, d⟩ c
        · omega
theorem FWT.yes {K : Nat → Nat → Int → Prop} {M : Nat → Nat → Int} (h : FWT K 6 M) (hx : ∃ a, a < 6 ∧ M a a < 0) : NOS K := by
  rcases h.2 with ⟨h9, -⟩ | h9
  · exact h9
  · obtain ⟨a, ha, hx⟩ := hx
    have h1 := h9.1 a ha
    omega
theorem FWT.no {K : Nat → Nat → Int → Prop} {M : Nat → Nat → Int} (h : FWT K 6 M) (hx : ∀ a, a < 6 → 0 ≤ M a a) : CLO K M := by
  rcases h.2 with ⟨-, a, ha, h9⟩ | h9
  · have h1 := hx a ha
    omega
  · exact h9.clo
/-- whether a clock would be ahead of itself -/
def CLD (c : Int32) (k : Nat) (M : Nat → Nat → Int) : Prop := (c = 0 ∧ ∀ a, a < k → 0 ≤ M a a) ∨ (c = 1 ∧ ∃ a, a < 6 ∧ M a a < 0)
theorem CLD.zero {M : Nat → Nat → Int} : CLD 0 0 M := Or.inl ⟨rfl, fun a h => absurd h (Nat.not_lt_zero a)⟩
theorem CLD.old {c : Int32} {k : Nat} {M : Nat → Nat → Int} (h : CLD c k M) (hc : ¬ c = 0) : CLD 1 (k + 1) M := by
  rcases h with ⟨h1, -⟩ | h1
  · exact absurd h1 hc
  · exact Or.inr ⟨rfl, h1.2⟩
theorem CLD.lo {k : Nat} {M : Nat → Nat → Int} (hk : k < 6) (hx : M k k < 0) : CLD 1 (k + 1) M := Or.inr ⟨rfl, k, hk, hx⟩
theorem CLD.hi {c : Int32} {k : Nat} {M : Nat → Nat → Int} (h : CLD c k M) (hc : c = 0) (hx : 0 ≤ M k k) : CLD 0 (k + 1) M := by
  rcases h with ⟨-, h1⟩ | ⟨h1, -⟩
  · refine Or.inl ⟨rfl, fun a ha => ?_⟩
    by_cases e : a = k
    · rw [e]
      exact hx
    · exact h1 a (by omega)
  · exact absurd (h1.symm.trans hc) (by decide)
theorem CLD.yes {c : Int32} {K : Nat → Nat → Int → Prop} {M : Nat → Nat → Int} (h : CLD c 6 M) (hf : FWT K 6 M) (hb : BAS K) : (c = 1 ∧ NOS K) ∨ (c = 0 ∧ CLB K M) := by
  rcases h with ⟨h1, h2⟩ | ⟨h1, h2⟩
  · exact Or.inr ⟨h1, hf.no h2, hb⟩
  · exact Or.inl ⟨h1, hf.yes h2⟩
theorem CKS.mk {f : Nat → Int32} {s c : Nat} (e : f (104 + 3 * s + 1) = nI c) (hc : c < 2 ^ 31) : CKS (shf f 104) s = c := by
  unfold CKS
  rw [(shf_st (f := f) (s := s) (c := 1)).trans e, nI_clamp hc]
theorem HRS.mk {f : Nat → Int32} {s : Nat} : HRS (shf f 104) s = (f (104 + 3 * s + 2)).toInt := congrArg Int32.toInt (shf_st (f := f) (s := s) (c := 2))
theorem PHI.stepR {f : Nat → Int32} {V : Nat → Prop} {gp : Int32} {k p i a b ca cb : Nat} {M N O : Nat → Nat → Int} (h : PHI (KST (shf f 104) V gp.toInt k) (KCV f V gp.toInt k p i) M) (ha : STQ f p k (i - 1) a) (hb : STQ f p k i b) (hi : 1 ≤ i) (hp : p < 2 ^ 31) (hv : V p) (ea : f (104 + 3 * a + 1) = nI ca) (eb : f (104 + 3 * b + 1) = nI cb) (hca : ca < 6) (hcb : cb < 6) (a0 : 0 ≤ (f (104 + 3 * a + 2)).toInt) (a9 : (f (104 + 3 * a + 2)).toInt ≤ 999) (b0 : 0 ≤ (f (104 + 3 * b + 2)).toInt) (b9 : (f (104 + 3 * b + 2)).toInt ≤ 999) (hg : GPRm gp)
    (hN : ∀ x y, x < 6 → y < 6 → N x y = MNI M ca cb (f (104 + 3 * b + 2) - f (104 + 3 * a + 2)).toInt x y) (hO : ∀ x y, x < 6 → y < 6 → O x y = MNI N cb ca (gp - (f (104 + 3 * b + 2) - f (104 + 3 * a + 2))).toInt x y) : PHI (KST (shf f 104) V gp.toInt k) (KCV f V gp.toInt k p (i + 1)) O := by
  have g0 := hg.1
  have g9 := hg.2
  have h1 := ti_sb (x := f (104 + 3 * b + 2)) (y := f (104 + 3 * a + 2)) (by omega) (by omega) (by omega) (by omega)
  have h2 := ti_sb (x := gp) (y := f (104 + 3 * b + 2) - f (104 + 3 * a + 2)) (by omega) (by omega) (by omega) (by omega)
  have ka := CKS.mk ea (by omega)
  have kb := CKS.mk eb (by omega)
  have ra := HRS.mk (f := f) (s := a)
  have rb := HRS.mk (f := f) (s := b)
  refine h.step ha hb hi hp hv (by omega) (by omega) (by omega) (by omega) (N := N) (fun x y hx hy => ?_) (fun x y hx hy => ?_)
  · rw [hN x y hx hy, ka, kb, ra, rb, h1]
  · rw [hO x y hx hy, ka, kb, ra, rb, h2, h1]
theorem mat6 {f : Nat → Int32} {a b : Nat} : MAT f a b = (f (6 * a + b)).toInt := congrArg (fun z => (f z).toInt) (by omega)
theorem MNI.of {f : Nat → Int32} {i j : Nat} {v x : Int32} (hi : i < 6) (hj : j < 6) (hx : x = if v < f (6 * i + j) then v else f (6 * i + j)) : ∀ a b, a < 6 → b < 6 → MAT (upd f (6 * i + j) x) a b = MNI (MAT f) i j v.toInt a b := by
  intro a b ha hb
  rw [show 6 * i + j = i * 6 + j by omega, MAT.set hb hj]
  unfold MNI
  have e6 := mat6 (f := f) (a := i) (b := j)
  by_cases c : a = i ∧ b = j
  · rw [if_pos c, c.1, c.2, e6, hx]
    by_cases d : v < f (6 * i + j)
    · rw [if_pos d, if_pos ⟨rfl, rfl, Int32.lt_iff_toInt_lt.mp d⟩]
    · rw [if_neg d, if_neg (fun h9 => d (Int32.lt_iff_toInt_lt.mpr h9.2.2))]
  · rw [if_neg c, if_neg (fun h9 => c ⟨h9.1, h9.2.1⟩)]
theorem tiW {x y : Int32} (h1 : -100000000 ≤ x.toInt) (h2 : x.toInt ≤ 100000000) (h3 : -100000000 ≤ y.toInt) (h4 : y.toInt ≤ 100000000) : (x + y).toInt = x.toInt + y.toInt := by
  rw [Int32.toInt_add, bm32 (by omega) (by omega)]
theorem FWS.sum {K : Nat → Nat → Int → Prop} {m i j : Nat} {M0 : Nat → Nat → Int} {f : Nat → Int32} (h : FWS K m i j M0 (MAT f)) (hm : m < 6) (hi : i < 6) (hj : j < 6) : (f (6 * i + m) + f (6 * m + j)).toInt = MAT f i m + MAT f m j := by
  have n1 := LB.lim hm
  obtain ⟨u1, u2, -⟩ := h.1 i m hi hm
  obtain ⟨v1, v2, -⟩ := h.1 m j hm hj
  rw [mat6] at u1 u2 v1 v2
  rw [mat6, mat6]
  exact tiW (by omega) (by omega) (by omega) (by omega)
theorem FRP.set6 {i j : Nat} {f : Nat → Int32} {w : Int32} (h : FRP i j (MAT f)) (hj : j < 6) (hw : w.toInt = BASW i j) : FRP i (j + 1) (MAT (upd f (6 * i + j) w)) := by
  rw [show 6 * i + j = i * 6 + j by omega]
  exact h.set hj hw
theorem FWT.mb {K : Nat → Nat → Int → Prop} {m : Nat} {f : Nat → Int32} (h : FWT K m (MAT f)) : ∀ i : Nat, i < 36 → (f i).toInt ≤ 120 := by
  intro i hi
  have q := (h.1 (i / 6) (i % 6) (by omega) (by omega)).2
  have e : MAT f (i / 6) (i % 6) = (f i).toInt := congrArg (fun z => (f z).toInt) (by omega)
  omega
/-- the papers that the reference sees -/
def VSE (f : Nat → Int32) (n : Nat) : Nat → Prop := fun p => p < n ∧ SEE (shf f 32) (f 0) (f 1) (f 2) p
section WR
variable {p : Program} {l : Launch} {e : Env} {R : Room} {s : State} {m : MethodId} {args : Array Value} {below : List Frame} {meth : Method} {c : Code} {H : Heap} {locs : List Loc} {cells slots : Nat} {Q : State → Prop}
variable {pc : Nat} {ls : Array Slot} {rest : List Value} {G : GG} {ws : va_W} {A : Nat → Prop} {y0 : MethodName} {b0 : ByteArray} {mL0 : Nat} {rt0 : Option FieldType} {a : Nat} {H0 : Heap}
end WR
def pcnt (j : Nat) : Nat := j % 2 + j / 2 % 2 + j / 4 % 2 + j / 8 % 2 + j / 16 % 2 + j / 32 % 2 + j / 64 % 2
theorem pcnt_le : ∀ j : Nat, pcnt j ≤ 7 := by
  intro j
  unfold pcnt
  omega
theorem pcnt_0a : ∀ j : Fin 128, pcnt j.1 ≤ 0 → j.1 = 0 := by decide +kernel
theorem pcnt_0 {j : Nat} (hj : j < 128) (h : pcnt j ≤ 0) : j = 0 := pcnt_0a ⟨j, hj⟩ h
theorem go_all : ∀ j : Fin 128, ∀ q : Fin 7, ((nI j.1 >>> (nI q.1 &&& 31)) &&& 1 = 1) → (nI j.1 ^^^ (1 <<< (nI q.1 &&& 31)) = nI (j.1 ^^^ 2 ^ q.1)) ∧ pcnt (j.1 ^^^ 2 ^ q.1) + 1 = pcnt j.1 ∧ j.1 ^^^ 2 ^ q.1 < 128 := by decide +kernel
theorem go_x {j q : Nat} (hj : j < 128) (hq : q < 7) (h : (nI j >>> (nI q &&& 31)) &&& 1 = 1) : ∃ j2, j2 < 128 ∧ nI j ^^^ (1 <<< (nI q &&& 31)) = nI j2 ∧ pcnt j2 + 1 = pcnt j := by
  obtain ⟨h1, h2, h3⟩ := go_all ⟨j, hj⟩ ⟨q, hq⟩ h
  exact ⟨_, h3, h1, h2⟩
theorem shl_all : ∀ k : Fin 8, ((1 : Int32) <<< (nI k.1 &&& 31)).toInt ≤ 128 := by decide +kernel
theorem lt_shl {x : Int32} {k : Nat} (hk : k ≤ 7) (h0 : ¬ x < 0) (h : x < 1 <<< (nI k &&& 31)) : ∃ j, j < 128 ∧ x = nI j := by
  obtain ⟨j, hj, rfl⟩ := nI_of h0
  rw [Int32.lt_iff_toInt_lt, nI_ti hj] at h
  have h9 := shl_all ⟨k, by omega⟩
  simp only at h9
  exact ⟨j, by omega, rfl⟩
theorem bit7_all : ∀ j : Fin 128, ∀ k : Fin 16, ((nI j.1 >>> (nI k.1 &&& 31)) &&& 1 = 0) ∨ (k.1 < 7 ∧ (nI j.1 >>> (nI k.1 &&& 31)) &&& 1 = 1) := by decide +kernel
theorem bits7 {j k c : Nat} {x y : Int32} (hj : j < 128) (hk : k < 16) (hc : c ≤ k ∧ c ≤ 7) (hx : x = nI c) (hy : y = x + ((nI j >>> (nI k &&& 31)) &&& 1)) : ∃ c2, (c2 ≤ k + 1 ∧ c2 ≤ 7) ∧ y = nI c2 := by
  rcases bit7_all ⟨j, hj⟩ ⟨k, hk⟩ with h | ⟨h1, h⟩
  · refine ⟨c, by omega, ?_⟩
    rw [hy, hx]
    simp only at h
    rw [h]
    exact Int32.add_zero _
  · refine ⟨c + 1, by simp only at h1; omega, ?_⟩
    rw [hy, hx]
    simp only at h
    rw [h]
    exact nI_1 _
def B6 (f : Nat → Int32) : Prop := ∀ i, i < 7 → ∃ q, q ≤ 6 ∧ f i = nI q
def B66 (f g : Nat → Int32) : Prop := B6 f ∧ B6 g
theorem B6.set {f : Nat → Int32} {k q : Nat} (h : B6 f) (hq : q ≤ 6) : B6 (upd f k (nI q)) := by
  intro i hi
  unfold upd
  by_cases c : i = k
  · rw [if_pos c]; exact ⟨q, hq, rfl⟩
  · rw [if_neg c]; exact h i hi
theorem B66.cp {f g : Nat → Int32} {k : Nat} {x : Int32} (h : B66 f g) (hk : k < 7) (hx : x = f k) : B66 f (upd g k x) := by
  obtain ⟨q, hq, e⟩ := h.1 k hk
  rw [hx, e]
  exact ⟨h.1, h.2.set hq⟩
theorem B66.tr {f g : Nat → Int32} {k q : Nat} (h : B66 f g) (hq : q ≤ 6) : B66 (upd f k (nI q)) g := ⟨h.1.set hq, h.2⟩
/-- both places lie in the sheet -/
def NT (x fi la : Int32) : Prop := ¬ fi < 0 ∧ ¬ x ≤ la
theorem NT.at {f : Nat → Int32} {i : Nat} {v : Int32} (h : SZ f) (hi : i < 4) (hn : NT (f i) v v) : ∃ j, j < 40 ∧ v = nI j := by
  obtain ⟨k, hk, e⟩ := h i hi
  obtain ⟨j, hj, rfl⟩ := nI_of hn.1
  have h2 := hn.2
  rw [e, nI_leI (by omega) hj] at h2
  exact ⟨j, by omega, rfl⟩
theorem lgc_le {x y : Int64} (h : lg_cmp x y ≤ 0) : x.toInt ≤ y.toInt := by
  unfold lg_cmp at h
  by_cases c : y < x
  · rw [if_pos c] at h; exact absurd h (by decide)
  · rw [Int64.lt_iff_toInt_lt] at c; omega
theorem l_ti {n : Nat} (h : n < 2 ^ 31) : (nI n).toInt64.toInt = (n : Int) := by
  rw [Int32.toInt_toInt64]
  exact nI_ti h
theorem bmod64 {x : Int} (h1 : -9223372036854775808 ≤ x) (h2 : x ≤ 9223372036854775807) : x.bmod (2 ^ 64) = x := by
  rw [Int.bmod_eq_of_le] <;> omega
theorem st_in {ji jn k : Nat} (hj : ji < 2 ^ 31) (hn : jn ≤ 9) (hk : k ≤ 40) (h : lg_cmp ((nI ji).toInt64 + 2 * (nI jn).toInt64) (nI k).toInt64 ≤ 0) : ji + 2 * jn ≤ k := by
  have h9 := lgc_le h
  have e2 : (2 : Int64).toInt = 2 := by decide
  rw [Int64.toInt_add, Int64.toInt_mul, l_ti (by omega), l_ti (by omega), l_ti (by omega), e2, bmod64 (x := 2 * (jn : Int)) (by omega) (by omega), bmod64 (by omega) (by omega)] at h9
  omega
theorem Wi4_4 {v : Int32} (h : Wi v 0 4) (h0 : ¬ v = 0) (h1 : ¬ v = 1) (h2 : ¬ v = 2) (h3 : ¬ v = 3) : v = 4 := by
  obtain ⟨j, hj, rfl⟩ := Wi_nat (N := 4) (by decide) h
  rcases (show j = 0 ∨ j = 1 ∨ j = 2 ∨ j = 3 ∨ j = 4 by omega) with rfl | rfl | rfl | rfl | rfl
  · exact absurd rfl h0
  · exact absurd rfl h1
  · exact absurd rfl h2
  · exact absurd rfl h3
  · rfl
/-- the codes on a sheet are stamps -/
def GD (f : Nat → Int32) (at9 n : Nat) : Prop := ∀ k, k < n → (∃ c, c ≤ 5 ∧ f (at9 + 2 * k) = nI c) ∧ ∃ h, h ≤ 999 ∧ f (at9 + 2 * k + 1) = nI h
theorem GD.zero {f : Nat → Int32} {at9 : Nat} : GD f at9 0 := fun k h => absurd h (Nat.not_lt_zero k)
theorem GD.next {f : Nat → Int32} {at9 n : Nat} {x y : Int32} (h : GD f at9 n) (hx : x = f (at9 + 2 * n)) (hy : y = f (at9 + 2 * n + 1)) (h1 : Wi x 0 5) (h2 : Wi y 0 999) : GD f at9 (n + 1) := by
  intro k hk
  by_cases c : k = n
  · subst c
    obtain ⟨j, hj, e⟩ := Wi_nat (N := 5) (by decide) h1
    obtain ⟨i, hi, e9⟩ := Wi_nat (N := 999) (by decide) h2
    exact ⟨⟨j, hj, hx.symm.trans e⟩, i, hi, hy.symm.trans e9⟩
  · exact h k (by omega)
section WR
variable {p : Program} {l : Launch} {e : Env} {R : Room} {s : State} {m : MethodId} {args : Array Value} {below : List Frame} {meth : Method} {c : Code} {H : Heap} {locs : List Loc} {cells slots : Nat} {Q : State → Prop}
variable {pc : Nat} {ls : Array Slot} {rest : List Value} {G : GG} {ws : va_W} {A : Nat → Prop} {y0 : MethodName} {b0 : ByteArray} {mL0 : Nat} {rt0 : Option FieldType} {a : Nat} {H0 : Heap}
theorem gX12_go_0 : (decode cX12_go 0 = .ok (.iload_n 2, 1)) ∧ (decode cX12_go 1 = .ok (.ifCond .ne 55, 3)) ∧ (decode cX12_go 4 = .ok (.aload_n 0, 1)) ∧ (decode cX12_go 5 = .ok (.getfield 320, 3)) ∧ (decode cX12_go 8 = .ok (.ifCond .lt 12, 3)) ∧ (decode cX12_go 11 = .ok (.iload 5, 2)) ∧ (decode cX12_go 13 = .ok (.aload_n 0, 1)) ∧ (decode cX12_go 14 = .ok (.getfield 320, 3)) ∧ (decode cX12_go 17 = .ok (.if_icmp .ge 38, 3)) ∧ (decode cX12_go 20 = .ok (.aload_n 0, 1)) := by decide +kernel
theorem gX12_go_2 : (decode cX12_go 41 = .ok (.aload_n 0, 1)) ∧ (decode cX12_go 42 = .ok (.getfield 57, 3)) ∧ (decode cX12_go 45 = .ok (.iload 6, 2)) ∧ (decode cX12_go 47 = .ok (.iaload, 1)) ∧ (decode cX12_go 48 = .ok (.iastore, 1)) ∧ (decode cX12_go 49 = .ok (.iinc 6 1, 3)) ∧ (decode cX12_go 52 = .ok (.goto (-23), 3)) ∧ (decode cX12_go 55 = .ok (.return_, 1)) ∧ (decode cX12_go 56 = .ok (.iconst 0, 1)) ∧ (decode cX12_go 57 = .ok (.istore 6, 2)) := by decide +kernel
theorem gX12_go_3 : (decode cX12_go 59 = .ok (.iload 6, 2)) ∧ (decode cX12_go 61 = .ok (.bipush 7, 2)) ∧ (decode cX12_go 63 = .ok (.if_icmp .ge 96, 3)) ∧ (decode cX12_go 66 = .ok (.iload_n 2, 1)) ∧ (decode cX12_go 67 = .ok (.iload 6, 2)) ∧ (decode cX12_go 69 = .ok (.invokestatic 99, 3)) ∧ (decode cX12_go 72 = .ok (.ifCond .eq 81, 3)) ∧ (decode cX12_go 75 = .ok (.iload_n 3, 1)) ∧ (decode cX12_go 76 = .ok (.aload_n 0, 1)) ∧ (decode cX12_go 77 = .ok (.getfield 9, 3)) := by decide +kernel
theorem gX12_go_9 : (decode cX12_go 159 = .ok (.return_, 1)) := by decide +kernel
theorem gX12_go_4 : (decode cX12_go 80 = .ok (.sipush 1648, 3)) ∧ (decode cX12_go 83 = .ok (.iconst 2, 1)) ∧ (decode cX12_go 84 = .ok (.iload 6, 2)) ∧ (decode cX12_go 86 = .ok (.imul, 1)) ∧ (decode cX12_go 87 = .ok (.iadd, 1)) ∧ (decode cX12_go 88 = .ok (.iaload, 1)) ∧ (decode cX12_go 89 = .ok (.iadd, 1)) ∧ (decode cX12_go 90 = .ok (.istore 7, 2)) ∧ (decode cX12_go 92 = .ok (.aload_n 0, 1)) ∧ (decode cX12_go 93 = .ok (.getfield 9, 3)) := by decide +kernel
theorem gX12_go_5 : (decode cX12_go 96 = .ok (.sipush 1648, 3)) ∧ (decode cX12_go 99 = .ok (.iconst 2, 1)) ∧ (decode cX12_go 100 = .ok (.iload 6, 2)) ∧ (decode cX12_go 102 = .ok (.imul, 1)) ∧ (decode cX12_go 103 = .ok (.iadd, 1)) ∧ (decode cX12_go 104 = .ok (.iconst 1, 1)) ∧ (decode cX12_go 105 = .ok (.iadd, 1)) ∧ (decode cX12_go 106 = .ok (.iaload, 1)) ∧ (decode cX12_go 107 = .ok (.istore 8, 2)) ∧ (decode cX12_go 109 = .ok (.aload_n 0, 1)) := by decide +kernel
theorem gX12_go_6 : (decode cX12_go 110 = .ok (.getfield 57, 3)) ∧ (decode cX12_go 113 = .ok (.iload_n 1, 1)) ∧ (decode cX12_go 114 = .ok (.iload 6, 2)) ∧ (decode cX12_go 116 = .ok (.iastore, 1)) ∧ (decode cX12_go 117 = .ok (.aload_n 0, 1)) ∧ (decode cX12_go 118 = .ok (.iload_n 1, 1)) ∧ (decode cX12_go 119 = .ok (.iconst 1, 1)) ∧ (decode cX12_go 120 = .ok (.iadd, 1)) ∧ (decode cX12_go 121 = .ok (.iload_n 2, 1)) ∧ (decode cX12_go 122 = .ok (.iconst 1, 1)) := by decide +kernel
theorem m_1055 : Cond.fieldLink RX12 57 "InquiryBenchModel" "trial" "[I" ∈ BW := iB_BW56 _ (List.mem_of_getElem? (i := 4) rfl)
theorem gf_X12_57 (hC : CX p s m meth c y0 b0 mL0 rt0 args) (hy0 : y0.cls = RX12) (hK : KK G s) (hP : va_P G.1 vwCl ws H) (q0 : Nat) {fs : List Value} {v : Value} (he : ws[q0]? = some (a, .inr (12, fs))) (hv : fs[25]? = some v) (hdg : decode b0 pc = .ok (.getfield 57, 3)) (kk : W p l e R s m args below meth c H locs cells slots Q (F0 m (pc + 3) ls (v :: rest))) : W p l e R s m args below meth c H locs cells slots Q (F0 m pc ls (.ref a :: rest)) := by
  obtain ⟨hx, hb, hr, hml, hB, hown, hlocks, hnm⟩ := hC
  rw [hy0] at hown
  exact va_get (ci := 12) (C := RX12) (T := TX12) (N := 41) hx hb hB in_X12 hown hK.1 hP q0 he rfl 25 (by decide) (hB _ m_1055) (fun _ h => h) hv hdg kk
theorem gX12_go_7 : (decode cX12_go 123 = .ok (.iload 6, 2)) ∧ (decode cX12_go 125 = .ok (.ishl, 1)) ∧ (decode cX12_go 126 = .ok (.ixor, 1)) ∧ (decode cX12_go 127 = .ok (.iload 7, 2)) ∧ (decode cX12_go 129 = .ok (.iload 4, 2)) ∧ (decode cX12_go 131 = .ok (.iload 8, 2)) ∧ (decode cX12_go 133 = .ok (.ior, 1)) ∧ (decode cX12_go 134 = .ok (.iload 5, 2)) ∧ (decode cX12_go 136 = .ok (.iload 7, 2)) ∧ (decode cX12_go 138 = .ok (.iload 8, 2)) := by decide +kernel
theorem gX12_go_8 : (decode cX12_go 140 = .ok (.iload 4, 2)) ∧ (decode cX12_go 142 = .ok (.iconst (-1), 1)) ∧ (decode cX12_go 143 = .ok (.ixor, 1)) ∧ (decode cX12_go 144 = .ok (.iand, 1)) ∧ (decode cX12_go 145 = .ok (.invokestatic 110, 3)) ∧ (decode cX12_go 148 = .ok (.imul, 1)) ∧ (decode cX12_go 149 = .ok (.iadd, 1)) ∧ (decode cX12_go 150 = .ok (.invokevirtual 323, 3)) ∧ (decode cX12_go 153 = .ok (.iinc 6 1, 3)) ∧ (decode cX12_go 156 = .ok (.goto (-97), 3)) := by decide +kernel
theorem m_1334 : Cond.code yX12_go cX12_go 9 none ∈ BW := iB_BW71 _ (List.mem_of_getElem? (i := 10) rfl)
theorem pd_32 : (parseMethodDescriptor "(IIIII)V").map (fun d => d.parameters.length) = some 5 := by decide +kernel
theorem m_1332 : Cond.methodLink RX12 323 yX12_go ∈ BW := iB_BW71 _ (List.mem_of_getElem? (i := 8) rfl)
theorem m_1333 : Cond.instanceMethod yX12_go ∈ BW := iB_BW71 _ (List.mem_of_getElem? (i := 9) rfl)
theorem m_94 : Cond.selects RX12 yX12_go yX12_go ∈ BW := iB_BW4 _ (List.mem_of_getElem? (i := 14) rfl)
theorem si_X12_323 : SV RX12 RX12 323 yX12_go cX12_go 9 none 5 := ⟨⟨m_1332, m_1333, m_94, m_115, m_1334⟩, rfl, nK_RX12.1, nK_RX12.2, pd_32⟩
theorem m_1057 : Cond.fieldLink RX12 320 "InquiryBenchModel" "bestCost" "I" ∈ BW := iB_BW56 _ (List.mem_of_getElem? (i := 6) rfl)
theorem gf_X12_320 (hC : CX p s m meth c y0 b0 mL0 rt0 args) (hy0 : y0.cls = RX12) (hK : KK G s) (hP : va_P G.1 vwCl ws H) (q0 : Nat) {fs : List Value} {v : Value} (he : ws[q0]? = some (a, .inr (12, fs))) (hv : fs[27]? = some v) (hdg : decode b0 pc = .ok (.getfield 320, 3)) (kk : W p l e R s m args below meth c H locs cells slots Q (F0 m (pc + 3) ls (v :: rest))) : W p l e R s m args below meth c H locs cells slots Q (F0 m pc ls (.ref a :: rest)) := by
  obtain ⟨hx, hb, hr, hml, hB, hown, hlocks, hnm⟩ := hC
  rw [hy0] at hown
  exact va_get (ci := 12) (C := RX12) (T := TX12) (N := 41) hx hb hB in_X12 hown hK.1 hP q0 he rfl 27 (by decide) (hB _ m_1057) (fun _ h => h) hv hdg kk
theorem gX12_go_1 : (decode cX12_go 21 = .ok (.iload 5, 2)) ∧ (decode cX12_go 23 = .ok (.putfield 320, 3)) ∧ (decode cX12_go 26 = .ok (.iconst 0, 1)) ∧ (decode cX12_go 27 = .ok (.istore 6, 2)) ∧ (decode cX12_go 29 = .ok (.iload 6, 2)) ∧ (decode cX12_go 31 = .ok (.iload_n 1, 1)) ∧ (decode cX12_go 32 = .ok (.if_icmp .ge 23, 3)) ∧ (decode cX12_go 35 = .ok (.aload_n 0, 1)) ∧ (decode cX12_go 36 = .ok (.getfield 60, 3)) ∧ (decode cX12_go 39 = .ok (.iload 6, 2)) := by decide +kernel
theorem pf_X12_320 (hC : CX p s m meth c y0 b0 mL0 rt0 args) (hy0 : y0.cls = RX12) (hK : KK G s) (hP : va_P G.1 vwCl ws H) (hD : va_D A ws) (hS : va_S A H0 H locs) (q0 : Nat) {fs : List Value} {v : Value} {ws' : va_W} (he : ws[q0]? = some (a, .inr (12, fs))) (hl : 27 < fs.length) (hws : ws.set q0 (a, .inr (12, fs.set 27 v)) = ws') (hn : narrow .int v = v) (hfit : fits .int v = true) (hdg : decode b0 pc = .ok (.putfield 320, 3)) (kk : ∀ (H1 : Heap) (locs1 : List Loc), va_P G.1 vwCl ws' H1 → va_D A ws' → va_S A H0 H1 locs1 → W p l e R s m args below meth c H1 locs1 cells slots Q (F0 m (pc + 3) ls rest)) : W p l e R s m args below meth c H locs cells slots Q (F0 m pc ls (v :: .ref a :: rest)) := by
  obtain ⟨hx, hb, hr, hml, hB, hown, hlocks, hnm⟩ := hC
  rw [hy0] at hown
  subst hws
  exact va_put (ci := 12) (ty := .int) (C := RX12) (T := TX12) (N := 41) hx hb hB in_X12 tyX12 tyX12_ok nmX12 hown hK.1 hP hD hS q0 he rfl 27 (by decide) (hB _ m_1057) (fun _ h => h) rfl (by decide +kernel) hn hfit hl hdg kk
theorem m_1056 : Cond.fieldLink RX12 60 "InquiryBenchModel" "best" "[I" ∈ BW := iB_BW56 _ (List.mem_of_getElem? (i := 5) rfl)
theorem gf_X12_60 (hC : CX p s m meth c y0 b0 mL0 rt0 args) (hy0 : y0.cls = RX12) (hK : KK G s) (hP : va_P G.1 vwCl ws H) (q0 : Nat) {fs : List Value} {v : Value} (he : ws[q0]? = some (a, .inr (12, fs))) (hv : fs[26]? = some v) (hdg : decode b0 pc = .ok (.getfield 60, 3)) (kk : W p l e R s m args below meth c H locs cells slots Q (F0 m (pc + 3) ls (v :: rest))) : W p l e R s m args below meth c H locs cells slots Q (F0 m pc ls (.ref a :: rest)) := by
  obtain ⟨hx, hb, hr, hml, hB, hown, hlocks, hnm⟩ := hC
  rw [hy0] at hown
  exact va_get (ci := 12) (C := RX12) (T := TX12) (N := 41) hx hb hB in_X12 hown hK.1 hP q0 he rfl 26 (by decide) (hB _ m_1056) (fun _ h => h) hv hdg kk
theorem gX12_round_0 : (decode cX12_round 0 = .ok (.iload_n 1, 1)) ∧ (decode cX12_round 1 = .ok (.ifCond .lt 16, 3)) ∧ (decode cX12_round 4 = .ok (.iload_n 1, 1)) ∧ (decode cX12_round 5 = .ok (.iconst 1, 1)) ∧ (decode cX12_round 6 = .ok (.aload_n 0, 1)) ∧ (decode cX12_round 7 = .ok (.getfield 9, 3)) ∧ (decode cX12_round 10 = .ok (.bipush 11, 2)) ∧ (decode cX12_round 12 = .ok (.iaload, 1)) ∧ (decode cX12_round 13 = .ok (.ishl, 1)) ∧ (decode cX12_round 14 = .ok (.if_icmp .lt 5, 3)) := by decide +kernel
theorem gX12_round_1 : (decode cX12_round 17 = .ok (.iconst (-1), 1)) ∧ (decode cX12_round 18 = .ok (.ireturn, 1)) ∧ (decode cX12_round 19 = .ok (.iload_n 1, 1)) ∧ (decode cX12_round 20 = .ok (.ifCond .ne 6, 3)) ∧ (decode cX12_round 23 = .ok (.bipush (-3), 2)) ∧ (decode cX12_round 25 = .ok (.ireturn, 1)) ∧ (decode cX12_round 26 = .ok (.aload_n 0, 1)) ∧ (decode cX12_round 27 = .ok (.iconst (-1), 1)) ∧ (decode cX12_round 28 = .ok (.putfield 320, 3)) ∧ (decode cX12_round 31 = .ok (.aload_n 0, 1)) := by decide +kernel
theorem gX12_round_2 : (decode cX12_round 32 = .ok (.iconst 0, 1)) ∧ (decode cX12_round 33 = .ok (.iload_n 1, 1)) ∧ (decode cX12_round 34 = .ok (.iconst 0, 1)) ∧ (decode cX12_round 35 = .ok (.iconst 0, 1)) ∧ (decode cX12_round 36 = .ok (.iconst 0, 1)) ∧ (decode cX12_round 37 = .ok (.invokevirtual 323, 3)) ∧ (decode cX12_round 40 = .ok (.aload_n 0, 1)) ∧ (decode cX12_round 41 = .ok (.iload_n 1, 1)) ∧ (decode cX12_round 42 = .ok (.invokestatic 110, 3)) ∧ (decode cX12_round 45 = .ok (.putfield 327, 3)) := by decide +kernel
theorem m_1036 : Cond.fieldLink RX12 327 "InquiryBenchModel" "rowMany" "I" ∈ BW := iB_BW55 _ (List.mem_of_getElem? (i := 5) rfl)
theorem pf_X12_327 (hC : CX p s m meth c y0 b0 mL0 rt0 args) (hy0 : y0.cls = RX12) (hK : KK G s) (hP : va_P G.1 vwCl ws H) (hD : va_D A ws) (hS : va_S A H0 H locs) (q0 : Nat) {fs : List Value} {v : Value} {ws' : va_W} (he : ws[q0]? = some (a, .inr (12, fs))) (hl : 6 < fs.length) (hws : ws.set q0 (a, .inr (12, fs.set 6 v)) = ws') (hn : narrow .int v = v) (hfit : fits .int v = true) (hdg : decode b0 pc = .ok (.putfield 327, 3)) (kk : ∀ (H1 : Heap) (locs1 : List Loc), va_P G.1 vwCl ws' H1 → va_D A ws' → va_S A H0 H1 locs1 → W p l e R s m args below meth c H1 locs1 cells slots Q (F0 m (pc + 3) ls rest)) : W p l e R s m args below meth c H locs cells slots Q (F0 m pc ls (v :: .ref a :: rest)) := by
  obtain ⟨hx, hb, hr, hml, hB, hown, hlocks, hnm⟩ := hC
  rw [hy0] at hown
  subst hws
  exact va_put (ci := 12) (ty := .int) (C := RX12) (T := TX12) (N := 41) hx hb hB in_X12 tyX12 tyX12_ok nmX12 hown hK.1 hP hD hS q0 he rfl 6 (by decide) (hB _ m_1036) (fun _ h => h) rfl (by decide +kernel) hn hfit hl hdg kk
theorem gX12_round_3 : (decode cX12_round 48 = .ok (.aload_n 0, 1)) ∧ (decode cX12_round 49 = .ok (.iload_n 1, 1)) ∧ (decode cX12_round 50 = .ok (.putfield 22, 3)) ∧ (decode cX12_round 53 = .ok (.aload_n 0, 1)) ∧ (decode cX12_round 54 = .ok (.aload_n 0, 1)) ∧ (decode cX12_round 55 = .ok (.getfield 9, 3)) ∧ (decode cX12_round 58 = .ok (.iconst 0, 1)) ∧ (decode cX12_round 59 = .ok (.iaload, 1)) ∧ (decode cX12_round 60 = .ok (.putfield 330, 3)) ∧ (decode cX12_round 63 = .ok (.aload_n 0, 1)) := by decide +kernel
theorem m_1037 : Cond.fieldLink RX12 22 "InquiryBenchModel" "roundOf" "I" ∈ BW := iB_BW55 _ (List.mem_of_getElem? (i := 6) rfl)
theorem pf_X12_22 (hC : CX p s m meth c y0 b0 mL0 rt0 args) (hy0 : y0.cls = RX12) (hK : KK G s) (hP : va_P G.1 vwCl ws H) (hD : va_D A ws) (hS : va_S A H0 H locs) (q0 : Nat) {fs : List Value} {v : Value} {ws' : va_W} (he : ws[q0]? = some (a, .inr (12, fs))) (hl : 7 < fs.length) (hws : ws.set q0 (a, .inr (12, fs.set 7 v)) = ws') (hn : narrow .int v = v) (hfit : fits .int v = true) (hdg : decode b0 pc = .ok (.putfield 22, 3)) (kk : ∀ (H1 : Heap) (locs1 : List Loc), va_P G.1 vwCl ws' H1 → va_D A ws' → va_S A H0 H1 locs1 → W p l e R s m args below meth c H1 locs1 cells slots Q (F0 m (pc + 3) ls rest)) : W p l e R s m args below meth c H locs cells slots Q (F0 m pc ls (v :: .ref a :: rest)) := by
  obtain ⟨hx, hb, hr, hml, hB, hown, hlocks, hnm⟩ := hC
  rw [hy0] at hown
  subst hws
  exact va_put (ci := 12) (ty := .int) (C := RX12) (T := TX12) (N := 41) hx hb hB in_X12 tyX12 tyX12_ok nmX12 hown hK.1 hP hD hS q0 he rfl 7 (by decide) (hB _ m_1037) (fun _ h => h) rfl (by decide +kernel) hn hfit hl hdg kk
theorem m_1038 : Cond.fieldLink RX12 330 "InquiryBenchModel" "roundFrom" "I" ∈ BW := iB_BW55 _ (List.mem_of_getElem? (i := 7) rfl)
theorem pf_X12_330 (hC : CX p s m meth c y0 b0 mL0 rt0 args) (hy0 : y0.cls = RX12) (hK : KK G s) (hP : va_P G.1 vwCl ws H) (hD : va_D A ws) (hS : va_S A H0 H locs) (q0 : Nat) {fs : List Value} {v : Value} {ws' : va_W} (he : ws[q0]? = some (a, .inr (12, fs))) (hl : 8 < fs.length) (hws : ws.set q0 (a, .inr (12, fs.set 8 v)) = ws') (hn : narrow .int v = v) (hfit : fits .int v = true) (hdg : decode b0 pc = .ok (.putfield 330, 3)) (kk : ∀ (H1 : Heap) (locs1 : List Loc), va_P G.1 vwCl ws' H1 → va_D A ws' → va_S A H0 H1 locs1 → W p l e R s m args below meth c H1 locs1 cells slots Q (F0 m (pc + 3) ls rest)) : W p l e R s m args below meth c H locs cells slots Q (F0 m pc ls (v :: .ref a :: rest)) := by
  obtain ⟨hx, hb, hr, hml, hB, hown, hlocks, hnm⟩ := hC
  rw [hy0] at hown
  subst hws
  exact va_put (ci := 12) (ty := .int) (C := RX12) (T := TX12) (N := 41) hx hb hB in_X12 tyX12 tyX12_ok nmX12 hown hK.1 hP hD hS q0 he rfl 8 (by decide) (hB _ m_1038) (fun _ h => h) rfl (by decide +kernel) hn hfit hl hdg kk
theorem gX12_round_4 : (decode cX12_round 64 = .ok (.getfield 330, 3)) ∧ (decode cX12_round 67 = .ok (.istore_n 2, 1)) ∧ (decode cX12_round 68 = .ok (.iconst 0, 1)) ∧ (decode cX12_round 69 = .ok (.istore_n 3, 1)) ∧ (decode cX12_round 70 = .ok (.iload_n 3, 1)) ∧ (decode cX12_round 71 = .ok (.aload_n 0, 1)) ∧ (decode cX12_round 72 = .ok (.getfield 327, 3)) ∧ (decode cX12_round 75 = .ok (.if_icmp .ge 54, 3)) ∧ (decode cX12_round 78 = .ok (.iload_n 2, 1)) ∧ (decode cX12_round 79 = .ok (.aload_n 0, 1)) := by decide +kernel
theorem gf_X12_330 (hC : CX p s m meth c y0 b0 mL0 rt0 args) (hy0 : y0.cls = RX12) (hK : KK G s) (hP : va_P G.1 vwCl ws H) (q0 : Nat) {fs : List Value} {v : Value} (he : ws[q0]? = some (a, .inr (12, fs))) (hv : fs[8]? = some v) (hdg : decode b0 pc = .ok (.getfield 330, 3)) (kk : W p l e R s m args below meth c H locs cells slots Q (F0 m (pc + 3) ls (v :: rest))) : W p l e R s m args below meth c H locs cells slots Q (F0 m pc ls (.ref a :: rest)) := by
  obtain ⟨hx, hb, hr, hml, hB, hown, hlocks, hnm⟩ := hC
  rw [hy0] at hown
  exact va_get (ci := 12) (C := RX12) (T := TX12) (N := 41) hx hb hB in_X12 hown hK.1 hP q0 he rfl 8 (by decide) (hB _ m_1038) (fun _ h => h) hv hdg kk
theorem gf_X12_327 (hC : CX p s m meth c y0 b0 mL0 rt0 args) (hy0 : y0.cls = RX12) (hK : KK G s) (hP : va_P G.1 vwCl ws H) (q0 : Nat) {fs : List Value} {v : Value} (he : ws[q0]? = some (a, .inr (12, fs))) (hv : fs[6]? = some v) (hdg : decode b0 pc = .ok (.getfield 327, 3)) (kk : W p l e R s m args below meth c H locs cells slots Q (F0 m (pc + 3) ls (v :: rest))) : W p l e R s m args below meth c H locs cells slots Q (F0 m pc ls (.ref a :: rest)) := by
  obtain ⟨hx, hb, hr, hml, hB, hown, hlocks, hnm⟩ := hC
  rw [hy0] at hown
  exact va_get (ci := 12) (C := RX12) (T := TX12) (N := 41) hx hb hB in_X12 hown hK.1 hP q0 he rfl 6 (by decide) (hB _ m_1036) (fun _ h => h) hv hdg kk
theorem gX12_round_8 : (decode cX12_round 122 = .ok (.iastore, 1)) ∧ (decode cX12_round 123 = .ok (.iinc 3 1, 3)) ∧ (decode cX12_round 126 = .ok (.goto (-56), 3)) ∧ (decode cX12_round 129 = .ok (.aload_n 0, 1)) ∧ (decode cX12_round 130 = .ok (.getfield 320, 3)) ∧ (decode cX12_round 133 = .ok (.ireturn, 1)) := by decide +kernel
theorem gX12_round_5 : (decode cX12_round 80 = .ok (.getfield 9, 3)) ∧ (decode cX12_round 83 = .ok (.sipush 1648, 3)) ∧ (decode cX12_round 86 = .ok (.iconst 2, 1)) ∧ (decode cX12_round 87 = .ok (.aload_n 0, 1)) ∧ (decode cX12_round 88 = .ok (.getfield 60, 3)) ∧ (decode cX12_round 91 = .ok (.iload_n 3, 1)) ∧ (decode cX12_round 92 = .ok (.iaload, 1)) ∧ (decode cX12_round 93 = .ok (.imul, 1)) ∧ (decode cX12_round 94 = .ok (.iadd, 1)) ∧ (decode cX12_round 95 = .ok (.iaload, 1)) := by decide +kernel
theorem gX12_round_6 : (decode cX12_round 96 = .ok (.iadd, 1)) ∧ (decode cX12_round 97 = .ok (.istore_n 2, 1)) ∧ (decode cX12_round 98 = .ok (.aload_n 0, 1)) ∧ (decode cX12_round 99 = .ok (.getfield 19, 3)) ∧ (decode cX12_round 102 = .ok (.iconst 2, 1)) ∧ (decode cX12_round 103 = .ok (.iload_n 3, 1)) ∧ (decode cX12_round 104 = .ok (.imul, 1)) ∧ (decode cX12_round 105 = .ok (.aload_n 0, 1)) ∧ (decode cX12_round 106 = .ok (.getfield 60, 3)) ∧ (decode cX12_round 109 = .ok (.iload_n 3, 1)) := by decide +kernel
theorem m_1035 : Cond.fieldLink RX12 19 "InquiryBenchModel" "rows" "[I" ∈ BW := iB_BW55 _ (List.mem_of_getElem? (i := 4) rfl)
theorem gf_X12_19 (hC : CX p s m meth c y0 b0 mL0 rt0 args) (hy0 : y0.cls = RX12) (hK : KK G s) (hP : va_P G.1 vwCl ws H) (q0 : Nat) {fs : List Value} {v : Value} (he : ws[q0]? = some (a, .inr (12, fs))) (hv : fs[5]? = some v) (hdg : decode b0 pc = .ok (.getfield 19, 3)) (kk : W p l e R s m args below meth c H locs cells slots Q (F0 m (pc + 3) ls (v :: rest))) : W p l e R s m args below meth c H locs cells slots Q (F0 m pc ls (.ref a :: rest)) := by
  obtain ⟨hx, hb, hr, hml, hB, hown, hlocks, hnm⟩ := hC
  rw [hy0] at hown
  exact va_get (ci := 12) (C := RX12) (T := TX12) (N := 41) hx hb hB in_X12 hown hK.1 hP q0 he rfl 5 (by decide) (hB _ m_1035) (fun _ h => h) hv hdg kk
theorem gX12_round_7 : (decode cX12_round 110 = .ok (.iaload, 1)) ∧ (decode cX12_round 111 = .ok (.iastore, 1)) ∧ (decode cX12_round 112 = .ok (.aload_n 0, 1)) ∧ (decode cX12_round 113 = .ok (.getfield 19, 3)) ∧ (decode cX12_round 116 = .ok (.iconst 2, 1)) ∧ (decode cX12_round 117 = .ok (.iload_n 3, 1)) ∧ (decode cX12_round 118 = .ok (.imul, 1)) ∧ (decode cX12_round 119 = .ok (.iconst 1, 1)) ∧ (decode cX12_round 120 = .ok (.iadd, 1)) ∧ (decode cX12_round 121 = .ok (.iload_n 2, 1)) := by decide +kernel
theorem gX12_isRow_0 : (decode cX12_isRow 0 = .ok (.iload_n 1, 1)) ∧ (decode cX12_isRow 1 = .ok (.iconst 0, 1)) ∧ (decode cX12_isRow 2 = .ok (.aload_n 0, 1)) ∧ (decode cX12_isRow 3 = .ok (.getfield 327, 3)) ∧ (decode cX12_isRow 6 = .ok (.iconst 1, 1)) ∧ (decode cX12_isRow 7 = .ok (.isub, 1)) ∧ (decode cX12_isRow 8 = .ok (.invokestatic 84, 3)) ∧ (decode cX12_isRow 11 = .ok (.ifCond .eq 16, 3)) ∧ (decode cX12_isRow 14 = .ok (.iload_n 2, 1)) ∧ (decode cX12_isRow 15 = .ok (.iconst 0, 1)) := by decide +kernel
theorem gX12_isRow_1 : (decode cX12_isRow 16 = .ok (.iconst 1, 1)) ∧ (decode cX12_isRow 17 = .ok (.invokestatic 84, 3)) ∧ (decode cX12_isRow 20 = .ok (.ifCond .eq 7, 3)) ∧ (decode cX12_isRow 23 = .ok (.iconst 1, 1)) ∧ (decode cX12_isRow 24 = .ok (.goto 4, 3)) ∧ (decode cX12_isRow 27 = .ok (.iconst 0, 1)) ∧ (decode cX12_isRow 28 = .ok (.ireturn, 1)) := by decide +kernel
theorem gX12_row_0 : (decode cX12_row 0 = .ok (.aload_n 0, 1)) ∧ (decode cX12_row 1 = .ok (.iload_n 1, 1)) ∧ (decode cX12_row 2 = .ok (.iload_n 2, 1)) ∧ (decode cX12_row 3 = .ok (.invokevirtual 333, 3)) ∧ (decode cX12_row 6 = .ok (.ifCond .eq 16, 3)) ∧ (decode cX12_row 9 = .ok (.aload_n 0, 1)) ∧ (decode cX12_row 10 = .ok (.getfield 19, 3)) ∧ (decode cX12_row 13 = .ok (.iconst 2, 1)) ∧ (decode cX12_row 14 = .ok (.iload_n 1, 1)) ∧ (decode cX12_row 15 = .ok (.imul, 1)) := by decide +kernel
theorem m_1341 : Cond.code yX12_isRow cX12_isRow 3 (some .boolean) ∈ BW := iB_BW71 _ (List.mem_of_getElem? (i := 17) rfl)
theorem m_1339 : Cond.methodLink RX12 333 yX12_isRow ∈ BW := iB_BW71 _ (List.mem_of_getElem? (i := 15) rfl)
theorem m_1340 : Cond.instanceMethod yX12_isRow ∈ BW := iB_BW71 _ (List.mem_of_getElem? (i := 16) rfl)
theorem m_95 : Cond.selects RX12 yX12_isRow yX12_isRow ∈ BW := iB_BW4 _ (List.mem_of_getElem? (i := 15) rfl)
theorem si_X12_333 : SV RX12 RX12 333 yX12_isRow cX12_isRow 3 (some .boolean) 2 := ⟨⟨m_1339, m_1340, m_95, m_115, m_1341⟩, rfl, nK_RX12.1, nK_RX12.2, pd_3⟩
theorem gX12_row_1 : (decode cX12_row 16 = .ok (.iload_n 2, 1)) ∧ (decode cX12_row 17 = .ok (.iadd, 1)) ∧ (decode cX12_row 18 = .ok (.iaload, 1)) ∧ (decode cX12_row 19 = .ok (.goto 5, 3)) ∧ (decode cX12_row 22 = .ok (.bipush (-9), 2)) ∧ (decode cX12_row 24 = .ok (.ireturn, 1)) := by decide +kernel
theorem gX12_alterRow_0 : (decode cX12_alterRow 0 = .ok (.aload_n 0, 1)) ∧ (decode cX12_alterRow 1 = .ok (.iload_n 1, 1)) ∧ (decode cX12_alterRow 2 = .ok (.iload_n 2, 1)) ∧ (decode cX12_alterRow 3 = .ok (.invokevirtual 333, 3)) ∧ (decode cX12_alterRow 6 = .ok (.ifCond .ne 6, 3)) ∧ (decode cX12_alterRow 9 = .ok (.bipush (-9), 2)) ∧ (decode cX12_alterRow 11 = .ok (.ireturn, 1)) ∧ (decode cX12_alterRow 12 = .ok (.aload_n 0, 1)) ∧ (decode cX12_alterRow 13 = .ok (.getfield 19, 3)) ∧ (decode cX12_alterRow 16 = .ok (.iconst 2, 1)) := by decide +kernel
theorem gX12_alterRow_1 : (decode cX12_alterRow 17 = .ok (.iload_n 1, 1)) ∧ (decode cX12_alterRow 18 = .ok (.imul, 1)) ∧ (decode cX12_alterRow 19 = .ok (.iload_n 2, 1)) ∧ (decode cX12_alterRow 20 = .ok (.iadd, 1)) ∧ (decode cX12_alterRow 21 = .ok (.iaload, 1)) ∧ (decode cX12_alterRow 22 = .ok (.istore 4, 2)) ∧ (decode cX12_alterRow 24 = .ok (.aload_n 0, 1)) ∧ (decode cX12_alterRow 25 = .ok (.getfield 19, 3)) ∧ (decode cX12_alterRow 28 = .ok (.iconst 2, 1)) ∧ (decode cX12_alterRow 29 = .ok (.iload_n 1, 1)) := by decide +kernel
theorem gX12_alterRow_2 : (decode cX12_alterRow 30 = .ok (.imul, 1)) ∧ (decode cX12_alterRow 31 = .ok (.iload_n 2, 1)) ∧ (decode cX12_alterRow 32 = .ok (.iadd, 1)) ∧ (decode cX12_alterRow 33 = .ok (.iload_n 3, 1)) ∧ (decode cX12_alterRow 34 = .ok (.iastore, 1)) ∧ (decode cX12_alterRow 35 = .ok (.iload 4, 2)) ∧ (decode cX12_alterRow 37 = .ok (.ireturn, 1)) := by decide +kernel
theorem gX12_dropRow_0 : (decode cX12_dropRow 0 = .ok (.aload_n 0, 1)) ∧ (decode cX12_dropRow 1 = .ok (.getfield 327, 3)) ∧ (decode cX12_dropRow 4 = .ok (.ifCond .ne 6, 3)) ∧ (decode cX12_dropRow 7 = .ok (.bipush (-3), 2)) ∧ (decode cX12_dropRow 9 = .ok (.ireturn, 1)) ∧ (decode cX12_dropRow 10 = .ok (.aload_n 0, 1)) ∧ (decode cX12_dropRow 11 = .ok (.dup, 1)) ∧ (decode cX12_dropRow 12 = .ok (.getfield 327, 3)) ∧ (decode cX12_dropRow 15 = .ok (.iconst 1, 1)) ∧ (decode cX12_dropRow 16 = .ok (.isub, 1)) := by decide +kernel
theorem gX12_dropRow_1 : (decode cX12_dropRow 17 = .ok (.putfield 327, 3)) ∧ (decode cX12_dropRow 20 = .ok (.aload_n 0, 1)) ∧ (decode cX12_dropRow 21 = .ok (.getfield 327, 3)) ∧ (decode cX12_dropRow 24 = .ok (.ireturn, 1)) := by decide +kernel
theorem gX12_judge_0 : (decode cX12_judge 0 = .ok (.aload_n 0, 1)) ∧ (decode cX12_judge 1 = .ok (.getfield 22, 3)) ∧ (decode cX12_judge 4 = .ok (.ifCond .ge 6, 3)) ∧ (decode cX12_judge 7 = .ok (.bipush (-3), 2)) ∧ (decode cX12_judge 9 = .ok (.ireturn, 1)) ∧ (decode cX12_judge 10 = .ok (.iconst 0, 1)) ∧ (decode cX12_judge 11 = .ok (.istore_n 1, 1)) ∧ (decode cX12_judge 12 = .ok (.iconst 0, 1)) ∧ (decode cX12_judge 13 = .ok (.istore_n 2, 1)) ∧ (decode cX12_judge 14 = .ok (.iload_n 2, 1)) := by decide +kernel
theorem gf_X12_22 (hC : CX p s m meth c y0 b0 mL0 rt0 args) (hy0 : y0.cls = RX12) (hK : KK G s) (hP : va_P G.1 vwCl ws H) (q0 : Nat) {fs : List Value} {v : Value} (he : ws[q0]? = some (a, .inr (12, fs))) (hv : fs[7]? = some v) (hdg : decode b0 pc = .ok (.getfield 22, 3)) (kk : W p l e R s m args below meth c H locs cells slots Q (F0 m (pc + 3) ls (v :: rest))) : W p l e R s m args below meth c H locs cells slots Q (F0 m pc ls (.ref a :: rest)) := by
  obtain ⟨hx, hb, hr, hml, hB, hown, hlocks, hnm⟩ := hC
  rw [hy0] at hown
  exact va_get (ci := 12) (C := RX12) (T := TX12) (N := 41) hx hb hB in_X12 hown hK.1 hP q0 he rfl 7 (by decide) (hB _ m_1037) (fun _ h => h) hv hdg kk
theorem gX12_judge_1 : (decode cX12_judge 15 = .ok (.aload_n 0, 1)) ∧ (decode cX12_judge 16 = .ok (.getfield 9, 3)) ∧ (decode cX12_judge 19 = .ok (.bipush 11, 2)) ∧ (decode cX12_judge 21 = .ok (.iaload, 1)) ∧ (decode cX12_judge 22 = .ok (.if_icmp .ge 20, 3)) ∧ (decode cX12_judge 25 = .ok (.iload_n 1, 1)) ∧ (decode cX12_judge 26 = .ok (.aload_n 0, 1)) ∧ (decode cX12_judge 27 = .ok (.getfield 22, 3)) ∧ (decode cX12_judge 30 = .ok (.iconst 1, 1)) ∧ (decode cX12_judge 31 = .ok (.iload_n 2, 1)) := by decide +kernel
theorem gX12_judge_2 : (decode cX12_judge 32 = .ok (.ishl, 1)) ∧ (decode cX12_judge 33 = .ok (.iand, 1)) ∧ (decode cX12_judge 34 = .ok (.ior, 1)) ∧ (decode cX12_judge 35 = .ok (.istore_n 1, 1)) ∧ (decode cX12_judge 36 = .ok (.iinc 2 1, 3)) ∧ (decode cX12_judge 39 = .ok (.goto (-25), 3)) ∧ (decode cX12_judge 42 = .ok (.aload_n 0, 1)) ∧ (decode cX12_judge 43 = .ok (.getfield 330, 3)) ∧ (decode cX12_judge 46 = .ok (.istore_n 2, 1)) ∧ (decode cX12_judge 47 = .ok (.iconst 0, 1)) := by decide +kernel
theorem gX12_judge_3 : (decode cX12_judge 48 = .ok (.istore_n 3, 1)) ∧ (decode cX12_judge 49 = .ok (.iload_n 3, 1)) ∧ (decode cX12_judge 50 = .ok (.aload_n 0, 1)) ∧ (decode cX12_judge 51 = .ok (.getfield 327, 3)) ∧ (decode cX12_judge 54 = .ok (.if_icmp .ge 84, 3)) ∧ (decode cX12_judge 57 = .ok (.aload_n 0, 1)) ∧ (decode cX12_judge 58 = .ok (.getfield 19, 3)) ∧ (decode cX12_judge 61 = .ok (.iconst 2, 1)) ∧ (decode cX12_judge 62 = .ok (.iload_n 3, 1)) ∧ (decode cX12_judge 63 = .ok (.imul, 1)) := by decide +kernel
theorem gX12_judge_8 : (decode cX12_judge 124 = .ok (.iload_n 2, 1)) ∧ (decode cX12_judge 125 = .ok (.if_icmp .eq 7, 3)) ∧ (decode cX12_judge 128 = .ok (.iload_n 3, 1)) ∧ (decode cX12_judge 129 = .ok (.iconst 1, 1)) ∧ (decode cX12_judge 130 = .ok (.iadd, 1)) ∧ (decode cX12_judge 131 = .ok (.ireturn, 1)) ∧ (decode cX12_judge 132 = .ok (.iinc 3 1, 3)) ∧ (decode cX12_judge 135 = .ok (.goto (-86), 3)) ∧ (decode cX12_judge 138 = .ok (.aload_n 0, 1)) ∧ (decode cX12_judge 139 = .ok (.getfield 327, 3)) := by decide +kernel
theorem gX12_judge_9 : (decode cX12_judge 142 = .ok (.aload_n 0, 1)) ∧ (decode cX12_judge 143 = .ok (.getfield 22, 3)) ∧ (decode cX12_judge 146 = .ok (.invokestatic 110, 3)) ∧ (decode cX12_judge 149 = .ok (.if_icmp .ge 12, 3)) ∧ (decode cX12_judge 152 = .ok (.aload_n 0, 1)) ∧ (decode cX12_judge 153 = .ok (.getfield 327, 3)) ∧ (decode cX12_judge 156 = .ok (.iconst 1, 1)) ∧ (decode cX12_judge 157 = .ok (.iadd, 1)) ∧ (decode cX12_judge 158 = .ok (.goto 4, 3)) ∧ (decode cX12_judge 161 = .ok (.iconst 0, 1)) := by decide +kernel
theorem gX12_judge_10 : (decode cX12_judge 162 = .ok (.ireturn, 1)) := by decide +kernel
theorem gX12_judge_4 : (decode cX12_judge 64 = .ok (.iaload, 1)) ∧ (decode cX12_judge 65 = .ok (.istore 4, 2)) ∧ (decode cX12_judge 67 = .ok (.iload 4, 2)) ∧ (decode cX12_judge 69 = .ok (.iconst 0, 1)) ∧ (decode cX12_judge 70 = .ok (.bipush 6, 2)) ∧ (decode cX12_judge 72 = .ok (.invokestatic 84, 3)) ∧ (decode cX12_judge 75 = .ok (.ifCond .eq 12, 3)) ∧ (decode cX12_judge 78 = .ok (.iload_n 1, 1)) ∧ (decode cX12_judge 79 = .ok (.iload 4, 2)) ∧ (decode cX12_judge 81 = .ok (.invokestatic 99, 3)) := by decide +kernel
theorem gX12_judge_5 : (decode cX12_judge 84 = .ok (.ifCond .ne 7, 3)) ∧ (decode cX12_judge 87 = .ok (.iload_n 3, 1)) ∧ (decode cX12_judge 88 = .ok (.iconst 1, 1)) ∧ (decode cX12_judge 89 = .ok (.iadd, 1)) ∧ (decode cX12_judge 90 = .ok (.ireturn, 1)) ∧ (decode cX12_judge 91 = .ok (.iload_n 1, 1)) ∧ (decode cX12_judge 92 = .ok (.iconst 1, 1)) ∧ (decode cX12_judge 93 = .ok (.iload 4, 2)) ∧ (decode cX12_judge 95 = .ok (.ishl, 1)) ∧ (decode cX12_judge 96 = .ok (.ixor, 1)) := by decide +kernel
theorem gX12_judge_6 : (decode cX12_judge 97 = .ok (.istore_n 1, 1)) ∧ (decode cX12_judge 98 = .ok (.iload_n 2, 1)) ∧ (decode cX12_judge 99 = .ok (.aload_n 0, 1)) ∧ (decode cX12_judge 100 = .ok (.getfield 9, 3)) ∧ (decode cX12_judge 103 = .ok (.sipush 1648, 3)) ∧ (decode cX12_judge 106 = .ok (.iconst 2, 1)) ∧ (decode cX12_judge 107 = .ok (.iload 4, 2)) ∧ (decode cX12_judge 109 = .ok (.imul, 1)) ∧ (decode cX12_judge 110 = .ok (.iadd, 1)) ∧ (decode cX12_judge 111 = .ok (.iaload, 1)) := by decide +kernel
theorem gX12_judge_7 : (decode cX12_judge 112 = .ok (.iadd, 1)) ∧ (decode cX12_judge 113 = .ok (.istore_n 2, 1)) ∧ (decode cX12_judge 114 = .ok (.aload_n 0, 1)) ∧ (decode cX12_judge 115 = .ok (.getfield 19, 3)) ∧ (decode cX12_judge 118 = .ok (.iconst 2, 1)) ∧ (decode cX12_judge 119 = .ok (.iload_n 3, 1)) ∧ (decode cX12_judge 120 = .ok (.imul, 1)) ∧ (decode cX12_judge 121 = .ok (.iconst 1, 1)) ∧ (decode cX12_judge 122 = .ok (.iadd, 1)) ∧ (decode cX12_judge 123 = .ok (.iaload, 1)) := by decide +kernel
theorem gX12_sheet_0 : (decode cX12_sheet 0 = .ok (.iload_n 1, 1)) ∧ (decode cX12_sheet 1 = .ok (.invokestatic 336, 3)) ∧ (decode cX12_sheet 4 = .ok (.ifCond .eq 22, 3)) ∧ (decode cX12_sheet 7 = .ok (.iload_n 2, 1)) ∧ (decode cX12_sheet 8 = .ok (.iconst (-1), 1)) ∧ (decode cX12_sheet 9 = .ok (.iconst 4, 1)) ∧ (decode cX12_sheet 10 = .ok (.invokestatic 84, 3)) ∧ (decode cX12_sheet 13 = .ok (.ifCond .eq 13, 3)) ∧ (decode cX12_sheet 16 = .ok (.iload_n 2, 1)) ∧ (decode cX12_sheet 17 = .ok (.ifCond .lt 11, 3)) := by decide +kernel
theorem m_1360 : Cond.code yX12_isFour cX12_isFour 1 (some .boolean) ∈ BW := iB_BW72 _ (List.mem_of_getElem? (i := 16) rfl)
theorem m_1358 : Cond.methodLink RX12 336 yX12_isFour ∈ BW := iB_BW72 _ (List.mem_of_getElem? (i := 14) rfl)
theorem m_1359 : Cond.static yX12_isFour ∈ BW := iB_BW72 _ (List.mem_of_getElem? (i := 15) rfl)
theorem si_X12_336 : SS RX12 336 yX12_isFour cX12_isFour 1 (some .boolean) 1 := ⟨⟨m_1358, m_1359, m_115, m_1360⟩, ⟨nK_RX12.1, nK_RX12.2, pd_5⟩⟩
theorem gX12_sheet_1 : (decode cX12_sheet 20 = .ok (.iload_n 3, 1)) ∧ (decode cX12_sheet 21 = .ok (.bipush 40, 2)) ∧ (decode cX12_sheet 23 = .ok (.if_icmp .le 5, 3)) ∧ (decode cX12_sheet 26 = .ok (.iconst (-1), 1)) ∧ (decode cX12_sheet 27 = .ok (.ireturn, 1)) ∧ (decode cX12_sheet 28 = .ok (.iload_n 2, 1)) ∧ (decode cX12_sheet 29 = .ok (.ifCond .lt 10, 3)) ∧ (decode cX12_sheet 32 = .ok (.iload_n 3, 1)) ∧ (decode cX12_sheet 33 = .ok (.ifCond .ge 6, 3)) ∧ (decode cX12_sheet 36 = .ok (.bipush (-14), 2)) := by decide +kernel
theorem gX12_sheet_2 : (decode cX12_sheet 38 = .ok (.ireturn, 1)) ∧ (decode cX12_sheet 39 = .ok (.aload_n 0, 1)) ∧ (decode cX12_sheet 40 = .ok (.getfield 63, 3)) ∧ (decode cX12_sheet 43 = .ok (.iload_n 1, 1)) ∧ (decode cX12_sheet 44 = .ok (.iload_n 2, 1)) ∧ (decode cX12_sheet 45 = .ok (.iastore, 1)) ∧ (decode cX12_sheet 46 = .ok (.aload_n 0, 1)) ∧ (decode cX12_sheet 47 = .ok (.getfield 66, 3)) ∧ (decode cX12_sheet 50 = .ok (.iload_n 1, 1)) ∧ (decode cX12_sheet 51 = .ok (.iload_n 2, 1)) := by decide +kernel
theorem m_1058 : Cond.fieldLink RX12 63 "InquiryBenchModel" "sorts" "[I" ∈ BW := iB_BW56 _ (List.mem_of_getElem? (i := 7) rfl)
theorem gf_X12_63 (hC : CX p s m meth c y0 b0 mL0 rt0 args) (hy0 : y0.cls = RX12) (hK : KK G s) (hP : va_P G.1 vwCl ws H) (q0 : Nat) {fs : List Value} {v : Value} (he : ws[q0]? = some (a, .inr (12, fs))) (hv : fs[28]? = some v) (hdg : decode b0 pc = .ok (.getfield 63, 3)) (kk : W p l e R s m args below meth c H locs cells slots Q (F0 m (pc + 3) ls (v :: rest))) : W p l e R s m args below meth c H locs cells slots Q (F0 m pc ls (.ref a :: rest)) := by
  obtain ⟨hx, hb, hr, hml, hB, hown, hlocks, hnm⟩ := hC
  rw [hy0] at hown
  exact va_get (ci := 12) (C := RX12) (T := TX12) (N := 41) hx hb hB in_X12 hown hK.1 hP q0 he rfl 28 (by decide) (hB _ m_1058) (fun _ h => h) hv hdg kk
theorem m_1059 : Cond.fieldLink RX12 66 "InquiryBenchModel" "sizes" "[I" ∈ BW := iB_BW56 _ (List.mem_of_getElem? (i := 8) rfl)
theorem gf_X12_66 (hC : CX p s m meth c y0 b0 mL0 rt0 args) (hy0 : y0.cls = RX12) (hK : KK G s) (hP : va_P G.1 vwCl ws H) (q0 : Nat) {fs : List Value} {v : Value} (he : ws[q0]? = some (a, .inr (12, fs))) (hv : fs[29]? = some v) (hdg : decode b0 pc = .ok (.getfield 66, 3)) (kk : W p l e R s m args below meth c H locs cells slots Q (F0 m (pc + 3) ls (v :: rest))) : W p l e R s m args below meth c H locs cells slots Q (F0 m pc ls (.ref a :: rest)) := by
  obtain ⟨hx, hb, hr, hml, hB, hown, hlocks, hnm⟩ := hC
  rw [hy0] at hown
  exact va_get (ci := 12) (C := RX12) (T := TX12) (N := 41) hx hb hB in_X12 hown hK.1 hP q0 he rfl 29 (by decide) (hB _ m_1059) (fun _ h => h) hv hdg kk
theorem gX12_sheet_3 : (decode cX12_sheet 52 = .ok (.ifCond .ge 7, 3)) ∧ (decode cX12_sheet 55 = .ok (.iconst 0, 1)) ∧ (decode cX12_sheet 56 = .ok (.goto 4, 3)) ∧ (decode cX12_sheet 59 = .ok (.iload_n 3, 1)) ∧ (decode cX12_sheet 60 = .ok (.iastore, 1)) ∧ (decode cX12_sheet 61 = .ok (.iconst 0, 1)) ∧ (decode cX12_sheet 62 = .ok (.istore 4, 2)) ∧ (decode cX12_sheet 64 = .ok (.iload 4, 2)) ∧ (decode cX12_sheet 66 = .ok (.bipush 40, 2)) ∧ (decode cX12_sheet 68 = .ok (.if_icmp .ge 22, 3)) := by decide +kernel
theorem gX12_sheet_5 : (decode cX12_sheet 87 = .ok (.goto (-23), 3)) ∧ (decode cX12_sheet 90 = .ok (.iconst 1, 1)) ∧ (decode cX12_sheet 91 = .ok (.ireturn, 1)) := by decide +kernel
theorem gX12_sheet_4 : (decode cX12_sheet 71 = .ok (.aload_n 0, 1)) ∧ (decode cX12_sheet 72 = .ok (.getfield 69, 3)) ∧ (decode cX12_sheet 75 = .ok (.bipush 40, 2)) ∧ (decode cX12_sheet 77 = .ok (.iload_n 1, 1)) ∧ (decode cX12_sheet 78 = .ok (.imul, 1)) ∧ (decode cX12_sheet 79 = .ok (.iload 4, 2)) ∧ (decode cX12_sheet 81 = .ok (.iadd, 1)) ∧ (decode cX12_sheet 82 = .ok (.iconst 0, 1)) ∧ (decode cX12_sheet 83 = .ok (.iastore, 1)) ∧ (decode cX12_sheet 84 = .ok (.iinc 4 1, 3)) := by decide +kernel
theorem m_1060 : Cond.fieldLink RX12 69 "InquiryBenchModel" "items" "[I" ∈ BW := iB_BW56 _ (List.mem_of_getElem? (i := 9) rfl)
theorem gf_X12_69 (hC : CX p s m meth c y0 b0 mL0 rt0 args) (hy0 : y0.cls = RX12) (hK : KK G s) (hP : va_P G.1 vwCl ws H) (q0 : Nat) {fs : List Value} {v : Value} (he : ws[q0]? = some (a, .inr (12, fs))) (hv : fs[30]? = some v) (hdg : decode b0 pc = .ok (.getfield 69, 3)) (kk : W p l e R s m args below meth c H locs cells slots Q (F0 m (pc + 3) ls (v :: rest))) : W p l e R s m args below meth c H locs cells slots Q (F0 m pc ls (.ref a :: rest)) := by
  obtain ⟨hx, hb, hr, hml, hB, hown, hlocks, hnm⟩ := hC
  rw [hy0] at hown
  exact va_get (ci := 12) (C := RX12) (T := TX12) (N := 41) hx hb hB in_X12 hown hK.1 hP q0 he rfl 30 (by decide) (hB _ m_1060) (fun _ h => h) hv hdg kk
end WR
def NTA (s z a x : Int32) : Prop := ¬ s < 0 ∧ s = a ∧ ¬ x < 0 ∧ ¬ z ≤ x
def NTB (s a : Int32) : Prop := ¬ s < 0 ∧ ¬ s = a
def NTC (s z a x : Int32) : Prop := ¬ s < 0 ∧ s = a ∧ (x < 0 ∨ z ≤ x)
/-- the sheets are held alike: the items where there is a sheet -/
def SHR (hs hz hi so si it : Nat → Int32) : Prop := ∀ t, t < 4 → hs t = so t ∧ hz t = si t ∧ Wi (so t) (-1) 4 ∧ (so t < 0 ∨ ∀ i, i < 40 → hi (t * 40 + i) = it (t * 40 + i))
theorem wi_m1 {x : Int32} (h : Wi x (-1) 4) (h2 : x < 0) : x = (-1) := by
  apply Int32.toInt_inj.mp
  have h1 := (Wi_iff.mp h).1
  rw [Int32.lt_iff_toInt_lt] at h2
  have e1 : (-1 : Int32).toInt = -1 := by decide
  have e0 : (0 : Int32).toInt = 0 := by decide
  omega
theorem SHR.sz {hs hz hi so si it : Nat → Int32} (h : SHR hs hz hi so si it) (hz9 : SZ si) : SZ hz := fun i h4 => by
  obtain ⟨k, hk, e⟩ := hz9 i h4
  exact ⟨k, hk, (h i h4).2.1.trans e⟩
theorem SHR.pa {hs hz hi so si it : Nat → Int32} {x1 x2 : Int32} (h : SHR hs hz hi so si it) : ifc (Wi x1 0 3) (ifc (hs x1.toNatClampNeg = (-1)) (-11) (ifc (Wi x2 0 (hz x1.toNatClampNeg - 1)) 1 (-12))) (-1) = ifc (Wi x1 0 3) (ifc (so x1.toNatClampNeg < 0) (-11) (ifc (Wi x2 0 (si x1.toNatClampNeg - 1)) 1 (-12))) (-1) := by
  by_cases c1 : Wi x1 0 3
  · obtain ⟨j, hj, rfl⟩ := Wi3 c1
    obtain ⟨f1, f2, f3, f4⟩ := h j hj
    rw [ifc_t c1, ifc_t c1, nI_clamp (n := j) (by omega), f1, f2]
    by_cases c3 : so j < 0
    · rw [ifc_t c3, ifc_t (wi_m1 f3 c3)]
    · rw [ifc_f c3, ifc_f (q := so j = (-1)) (fun h9 => c3 (by rw [h9]; decide))]
  · rw [ifc_f c1, ifc_f c1]
theorem SHR.put {hs hz hi so si it gi gt : Nat → Int32} {x1 x2 x3 : Int32} (h : SHR hs hz hi so si it) (hc : ∀ i : Nat, gi i = ifc (Wi x1 0 3) (ifc (hs x1.toNatClampNeg = (-1)) (hi i) (ifc (Wi x2 0 (hz x1.toNatClampNeg - 1)) (upd hi (x1.toNatClampNeg * 40 + x2.toNatClampNeg) (NARW (hs x1.toNatClampNeg) x3) i) (hi i))) (hi i)) (hm : ∀ i : Nat, gt i = ifc (Wi x1 0 3) (ifc (so x1.toNatClampNeg < 0) (it i) (ifc (Wi x2 0 (si x1.toNatClampNeg - 1)) (upd it (40 * x1.toNatClampNeg + x2.toNatClampNeg) (NARW (so x1.toNatClampNeg) x3) i) (it i))) (it i)) : SHR hs hz gi so si gt := by
  intro t ht
  obtain ⟨e1, e2, e3, e4⟩ := h t ht
  refine ⟨e1, e2, e3, ?_⟩
  rcases e4 with e4 | e4
  · exact Or.inl e4
  refine Or.inr (fun i hi9 => ?_)
  rw [hc, hm]
  by_cases c1 : Wi x1 0 3
  · obtain ⟨j, hj, rfl⟩ := Wi3 c1
    obtain ⟨f1, f2, f3, f4⟩ := h j hj
    rw [ifc_t c1, ifc_t c1, nI_clamp (n := j) (by omega), f1, f2]
    by_cases c3 : so j < 0
    · rw [ifc_t c3, ifc_t (wi_m1 f3 c3)]; exact e4 i hi9
    · rw [ifc_f c3, ifc_f (q := so j = (-1)) (fun h9 => c3 (by rw [h9]; decide))]
      by_cases c4 : Wi x2 0 (si j - 1)
      · rw [ifc_t c4, ifc_t c4, Nat.mul_comm 40 j]
        unfold upd
        by_cases c : t * 40 + i = j * 40 + x2.toNatClampNeg
        · rw [if_pos c, if_pos c]
        · rw [if_neg c, if_neg c]; exact e4 i hi9
      · rw [ifc_f c4, ifc_f c4]; exact e4 i hi9
  · rw [ifc_f c1, ifc_f c1]; exact e4 i hi9
theorem SHR.it {hs hz hi so si it : Nat → Int32} {x1 x2 x3 : Int32} (h : SHR hs hz hi so si it) (hz9 : SZ si) : ifc (Wi x1 0 3) (ifc (Wi x2 0 4) (ifc (hs x1.toNatClampNeg = (-1)) (-11) (ifc (hs x1.toNatClampNeg = x2) (ifc (Wi x3 0 (hz x1.toNatClampNeg - 1)) (hi (x1.toNatClampNeg * 40 + x3.toNatClampNeg)) (-12)) (-13))) (-1)) (-1) = ifc (Wi x1 0 3) (ifc (Wi x2 0 4) (ifc (so x1.toNatClampNeg < 0) (-11) (ifc (so x1.toNatClampNeg = x2) (ifc (x3 < 0 ∨ si x1.toNatClampNeg ≤ x3) (-12) (it (40 * x1.toNatClampNeg + x3.toNatClampNeg))) (-13))) (-1)) (-1) := by
  by_cases c1 : Wi x1 0 3
  · obtain ⟨j, hj, rfl⟩ := Wi3 c1
    obtain ⟨f1, f2, f3, f4⟩ := h j hj
    obtain ⟨k, hk, ek⟩ := hz9 j hj
    rw [ifc_t c1, ifc_t c1, nI_clamp (n := j) (by omega), f1, f2]
    by_cases c2 : Wi x2 0 4
    · rw [ifc_t c2, ifc_t c2]
      by_cases c3 : so j < 0
      · rw [ifc_t c3, ifc_t (wi_m1 f3 c3)]
      · rw [ifc_f c3, ifc_f (q := so j = (-1)) (fun h9 => c3 (by rw [h9]; decide))]
        by_cases c4 : so j = x2
        · rw [ifc_t c4, ifc_t c4, ek]
          by_cases c5 : Wi x3 0 (nI k - 1)
          · have c6 := (WiHc (by omega)).mp c5
            rw [ifc_t c5, ifc_f (q := x3 < 0 ∨ nI k ≤ x3) (fun h9 => h9.elim c6.1 c6.2)]
            obtain ⟨i, hi9, rfl⟩ := Hs_nat (by omega) c6
            rw [nI_clamp (n := i) (by omega), Nat.mul_comm 40 j]
            rcases f4 with f4 | f4
            · exact absurd f4 c3
            · exact f4 i (by omega)
          · rw [ifc_f c5, ifc_t (q := x3 < 0 ∨ nI k ≤ x3) (Classical.byContradiction fun h9 => c5 ((WiHc (by omega)).mpr ⟨fun h8 => h9 (Or.inl h8), fun h8 => h9 (Or.inr h8)⟩))]
        · rw [ifc_f c4, ifc_f c4]
    · rw [ifc_f c2, ifc_f c2]
  · rw [ifc_f c1, ifc_f c1]
theorem SHR.sh {hs hz hi so si it gs gz gi ks kz kt : Nat → Int32} {x1 x2 x3 : Int32} (h : SHR hs hz hi so si it)
    (hc : (S0 x1 x2 → gs = upd hs x1.toNatClampNeg x2 ∧ gz = upd hz x1.toNatClampNeg 0 ∧ ZQ hi gi x1.toNatClampNeg) ∧ (S1 x1 x2 x3 → gs = upd hs x1.toNatClampNeg x2 ∧ gz = upd hz x1.toNatClampNeg x3 ∧ ZR hi gi x1.toNatClampNeg 40) ∧ (¬ S0 x1 x2 → ¬ S1 x1 x2 x3 → gs = hs ∧ gz = hz ∧ gi = hi))
    (hm : (S0 x1 x2 → ks = upd so x1.toNatClampNeg x2 ∧ kz = upd si x1.toNatClampNeg 0 ∧ ZQ it kt x1.toNatClampNeg) ∧ (S1 x1 x2 x3 → ks = upd so x1.toNatClampNeg x2 ∧ kz = upd si x1.toNatClampNeg x3 ∧ ZR it kt x1.toNatClampNeg 40) ∧ (¬ S0 x1 x2 → ¬ S1 x1 x2 x3 → ks = so ∧ kz = si ∧ kt = it)) : SHR gs gz gi ks kz kt := by
  by_cases c0 : S0 x1 x2
  · obtain ⟨a1, a2, a3⟩ := hc.1 c0
    obtain ⟨b1, b2, b3⟩ := hm.1 c0
    subst a1 a2 b1 b2
    intro t ht
    obtain ⟨e1, e2, e3, e4⟩ := h t ht
    unfold upd
    by_cases c : t = x1.toNatClampNeg
    · rw [if_pos c, if_pos c, if_pos c, if_pos c]
      exact ⟨rfl, rfl, c0.2.1, Or.inl c0.2.2⟩
    · rw [if_neg c, if_neg c, if_neg c, if_neg c]
      refine ⟨e1, e2, e3, ?_⟩
      rcases e4 with e4 | e4
      · exact Or.inl e4
      · refine Or.inr (fun i hi9 => ?_)
        rw [a3 _ (by omega), b3 _ (by omega)]
        exact e4 i hi9
  · by_cases c1 : S1 x1 x2 x3
    · obtain ⟨a1, a2, a3⟩ := hc.2.1 c1
      obtain ⟨b1, b2, b3⟩ := hm.2.1 c1
      subst a1 a2 b1 b2
      intro t ht
      obtain ⟨e1, e2, e3, e4⟩ := h t ht
      unfold upd
      by_cases c : t = x1.toNatClampNeg
      · rw [if_pos c, if_pos c, if_pos c, if_pos c]
        refine ⟨rfl, rfl, c1.2.1, Or.inr (fun i hi9 => ?_)⟩
        rw [a3, b3, if_pos (by omega), if_pos (by omega)]
      · rw [if_neg c, if_neg c, if_neg c, if_neg c]
        refine ⟨e1, e2, e3, ?_⟩
        rcases e4 with e4 | e4
        · exact Or.inl e4
        · refine Or.inr (fun i hi9 => ?_)
          rw [a3, b3, if_neg (by omega), if_neg (by omega)]
          exact e4 i hi9
    · obtain ⟨a1, a2, a3⟩ := hc.2.2 c0 c1
      obtain ⟨b1, b2, b3⟩ := hm.2.2 c0 c1
      subst a1 a2 a3 b1 b2 b3
      exact h
section WR
variable {p : Program} {l : Launch} {e : Env} {R : Room} {s : State} {m : MethodId} {args : Array Value} {below : List Frame} {meth : Method} {c : Code} {H : Heap} {locs : List Loc} {cells slots : Nat} {Q : State → Prop}
variable {pc : Nat} {ls : Array Slot} {rest : List Value} {G : GG} {ws : va_W} {A : Nat → Prop} {y0 : MethodName} {b0 : ByteArray} {mL0 : Nat} {rt0 : Option FieldType} {a : Nat} {H0 : Heap}
theorem gX12_put_0 : (decode cX12_put 0 = .ok (.iload_n 1, 1)) ∧ (decode cX12_put 1 = .ok (.invokestatic 336, 3)) ∧ (decode cX12_put 4 = .ok (.ifCond .ne 5, 3)) ∧ (decode cX12_put 7 = .ok (.iconst (-1), 1)) ∧ (decode cX12_put 8 = .ok (.ireturn, 1)) ∧ (decode cX12_put 9 = .ok (.aload_n 0, 1)) ∧ (decode cX12_put 10 = .ok (.getfield 63, 3)) ∧ (decode cX12_put 13 = .ok (.iload_n 1, 1)) ∧ (decode cX12_put 14 = .ok (.iaload, 1)) ∧ (decode cX12_put 15 = .ok (.ifCond .ge 6, 3)) := by decide +kernel
theorem gX12_put_1 : (decode cX12_put 18 = .ok (.bipush (-11), 2)) ∧ (decode cX12_put 20 = .ok (.ireturn, 1)) ∧ (decode cX12_put 21 = .ok (.iload_n 2, 1)) ∧ (decode cX12_put 22 = .ok (.iconst 0, 1)) ∧ (decode cX12_put 23 = .ok (.aload_n 0, 1)) ∧ (decode cX12_put 24 = .ok (.getfield 66, 3)) ∧ (decode cX12_put 27 = .ok (.iload_n 1, 1)) ∧ (decode cX12_put 28 = .ok (.iaload, 1)) ∧ (decode cX12_put 29 = .ok (.iconst 1, 1)) ∧ (decode cX12_put 30 = .ok (.isub, 1)) := by decide +kernel
theorem gX12_put_2 : (decode cX12_put 31 = .ok (.invokestatic 84, 3)) ∧ (decode cX12_put 34 = .ok (.ifCond .ne 6, 3)) ∧ (decode cX12_put 37 = .ok (.bipush (-12), 2)) ∧ (decode cX12_put 39 = .ok (.ireturn, 1)) ∧ (decode cX12_put 40 = .ok (.aload_n 0, 1)) ∧ (decode cX12_put 41 = .ok (.getfield 69, 3)) ∧ (decode cX12_put 44 = .ok (.bipush 40, 2)) ∧ (decode cX12_put 46 = .ok (.iload_n 1, 1)) ∧ (decode cX12_put 47 = .ok (.imul, 1)) ∧ (decode cX12_put 48 = .ok (.iload_n 2, 1)) := by decide +kernel
theorem gX12_put_3 : (decode cX12_put 49 = .ok (.iadd, 1)) ∧ (decode cX12_put 50 = .ok (.aload_n 0, 1)) ∧ (decode cX12_put 51 = .ok (.getfield 63, 3)) ∧ (decode cX12_put 54 = .ok (.iload_n 1, 1)) ∧ (decode cX12_put 55 = .ok (.iaload, 1)) ∧ (decode cX12_put 56 = .ok (.ifCond .ne 8, 3)) ∧ (decode cX12_put 59 = .ok (.iload_n 3, 1)) ∧ (decode cX12_put 60 = .ok (.i2b, 1)) ∧ (decode cX12_put 61 = .ok (.goto 41, 3)) ∧ (decode cX12_put 64 = .ok (.aload_n 0, 1)) := by decide +kernel
theorem gX12_put_4 : (decode cX12_put 65 = .ok (.getfield 63, 3)) ∧ (decode cX12_put 68 = .ok (.iload_n 1, 1)) ∧ (decode cX12_put 69 = .ok (.iaload, 1)) ∧ (decode cX12_put 70 = .ok (.iconst 1, 1)) ∧ (decode cX12_put 71 = .ok (.if_icmp .ne 8, 3)) ∧ (decode cX12_put 74 = .ok (.iload_n 3, 1)) ∧ (decode cX12_put 75 = .ok (.i2s, 1)) ∧ (decode cX12_put 76 = .ok (.goto 26, 3)) ∧ (decode cX12_put 79 = .ok (.aload_n 0, 1)) ∧ (decode cX12_put 80 = .ok (.getfield 63, 3)) := by decide +kernel
theorem gX12_put_5 : (decode cX12_put 83 = .ok (.iload_n 1, 1)) ∧ (decode cX12_put 84 = .ok (.iaload, 1)) ∧ (decode cX12_put 85 = .ok (.iconst 4, 1)) ∧ (decode cX12_put 86 = .ok (.if_icmp .ne 15, 3)) ∧ (decode cX12_put 89 = .ok (.iload_n 3, 1)) ∧ (decode cX12_put 90 = .ok (.ifCond .eq 7, 3)) ∧ (decode cX12_put 93 = .ok (.iconst 1, 1)) ∧ (decode cX12_put 94 = .ok (.goto 8, 3)) ∧ (decode cX12_put 97 = .ok (.iconst 0, 1)) ∧ (decode cX12_put 98 = .ok (.goto 4, 3)) := by decide +kernel
theorem gX12_put_6 : (decode cX12_put 101 = .ok (.iload_n 3, 1)) ∧ (decode cX12_put 102 = .ok (.iastore, 1)) ∧ (decode cX12_put 103 = .ok (.iconst 1, 1)) ∧ (decode cX12_put 104 = .ok (.ireturn, 1)) := by decide +kernel
theorem gX12_notThere_0 : (decode cX12_notThere 0 = .ok (.aload_n 0, 1)) ∧ (decode cX12_notThere 1 = .ok (.getfield 63, 3)) ∧ (decode cX12_notThere 4 = .ok (.iload_n 1, 1)) ∧ (decode cX12_notThere 5 = .ok (.iaload, 1)) ∧ (decode cX12_notThere 6 = .ok (.ifCond .ge 8, 3)) ∧ (decode cX12_notThere 9 = .ok (.bipush (-11), 2)) ∧ (decode cX12_notThere 11 = .ok (.goto 45, 3)) ∧ (decode cX12_notThere 14 = .ok (.aload_n 0, 1)) ∧ (decode cX12_notThere 15 = .ok (.getfield 63, 3)) ∧ (decode cX12_notThere 18 = .ok (.iload_n 1, 1)) := by decide +kernel
theorem gX12_notThere_1 : (decode cX12_notThere 19 = .ok (.iaload, 1)) ∧ (decode cX12_notThere 20 = .ok (.iload_n 2, 1)) ∧ (decode cX12_notThere 21 = .ok (.if_icmp .eq 8, 3)) ∧ (decode cX12_notThere 24 = .ok (.bipush (-13), 2)) ∧ (decode cX12_notThere 26 = .ok (.goto 30, 3)) ∧ (decode cX12_notThere 29 = .ok (.iload_n 3, 1)) ∧ (decode cX12_notThere 30 = .ok (.ifCond .lt 20, 3)) ∧ (decode cX12_notThere 33 = .ok (.iload 4, 2)) ∧ (decode cX12_notThere 35 = .ok (.aload_n 0, 1)) ∧ (decode cX12_notThere 36 = .ok (.getfield 66, 3)) := by decide +kernel
theorem gX12_notThere_2 : (decode cX12_notThere 39 = .ok (.iload_n 1, 1)) ∧ (decode cX12_notThere 40 = .ok (.iaload, 1)) ∧ (decode cX12_notThere 41 = .ok (.if_icmp .ge 9, 3)) ∧ (decode cX12_notThere 44 = .ok (.iload 4, 2)) ∧ (decode cX12_notThere 46 = .ok (.iload_n 3, 1)) ∧ (decode cX12_notThere 47 = .ok (.if_icmp .ge 8, 3)) ∧ (decode cX12_notThere 50 = .ok (.bipush (-12), 2)) ∧ (decode cX12_notThere 52 = .ok (.goto 4, 3)) ∧ (decode cX12_notThere 55 = .ok (.iconst 0, 1)) ∧ (decode cX12_notThere 56 = .ok (.ireturn, 1)) := by decide +kernel
theorem gX12_item_0 : (decode cX12_item 0 = .ok (.iload_n 1, 1)) ∧ (decode cX12_item 1 = .ok (.invokestatic 336, 3)) ∧ (decode cX12_item 4 = .ok (.ifCond .eq 12, 3)) ∧ (decode cX12_item 7 = .ok (.iload_n 2, 1)) ∧ (decode cX12_item 8 = .ok (.iconst 0, 1)) ∧ (decode cX12_item 9 = .ok (.iconst 4, 1)) ∧ (decode cX12_item 10 = .ok (.invokestatic 84, 3)) ∧ (decode cX12_item 13 = .ok (.ifCond .ne 5, 3)) ∧ (decode cX12_item 16 = .ok (.iconst (-1), 1)) ∧ (decode cX12_item 17 = .ok (.ireturn, 1)) := by decide +kernel
theorem gX12_item_1 : (decode cX12_item 18 = .ok (.aload_n 0, 1)) ∧ (decode cX12_item 19 = .ok (.iload_n 1, 1)) ∧ (decode cX12_item 20 = .ok (.iload_n 2, 1)) ∧ (decode cX12_item 21 = .ok (.iload_n 3, 1)) ∧ (decode cX12_item 22 = .ok (.iload_n 3, 1)) ∧ (decode cX12_item 23 = .ok (.invokevirtual 339, 3)) ∧ (decode cX12_item 26 = .ok (.istore 4, 2)) ∧ (decode cX12_item 28 = .ok (.iload 4, 2)) ∧ (decode cX12_item 30 = .ok (.ifCond .eq 8, 3)) ∧ (decode cX12_item 33 = .ok (.iload 4, 2)) := by decide +kernel
theorem m_1371 : Cond.code yX12_notThere cX12_notThere 5 (some .int) ∈ BW := iB_BW73 _ (List.mem_of_getElem? (i := 7) rfl)
theorem m_1369 : Cond.methodLink RX12 339 yX12_notThere ∈ BW := iB_BW73 _ (List.mem_of_getElem? (i := 5) rfl)
theorem m_1370 : Cond.instanceMethod yX12_notThere ∈ BW := iB_BW73 _ (List.mem_of_getElem? (i := 6) rfl)
theorem m_96 : Cond.selects RX12 yX12_notThere yX12_notThere ∈ BW := iB_BW4 _ (List.mem_of_getElem? (i := 16) rfl)
theorem si_X12_339 : SV RX12 RX12 339 yX12_notThere cX12_notThere 5 (some .int) 4 := ⟨⟨m_1369, m_1370, m_96, m_115, m_1371⟩, rfl, nK_RX12.1, nK_RX12.2, pd_17⟩
theorem gX12_item_2 : (decode cX12_item 35 = .ok (.goto 14, 3)) ∧ (decode cX12_item 38 = .ok (.aload_n 0, 1)) ∧ (decode cX12_item 39 = .ok (.getfield 69, 3)) ∧ (decode cX12_item 42 = .ok (.bipush 40, 2)) ∧ (decode cX12_item 44 = .ok (.iload_n 1, 1)) ∧ (decode cX12_item 45 = .ok (.imul, 1)) ∧ (decode cX12_item 46 = .ok (.iload_n 3, 1)) ∧ (decode cX12_item 47 = .ok (.iadd, 1)) ∧ (decode cX12_item 48 = .ok (.iaload, 1)) ∧ (decode cX12_item 49 = .ok (.ireturn, 1)) := by decide +kernel
end WR
/-- while good, the numbers so far are stamps -/
def GX (g : Nat → Int32) (b c n : Nat) (gd : Int32) : Prop := (gd = 0 ∧ ¬ ALS g b c n) ∨ (gd = 1 ∧ ALS g b c n)
theorem GX.zero {g : Nat → Int32} {b c : Nat} : GX g b c 0 1 := Or.inr ⟨rfl, ALS.zero⟩
theorem GX.f {g : Nat → Int32} {b c n : Nat} {gd : Int32} (h : GX g b c n gd) (e : gd = 0) : ¬ ALS g b c n := by
  rcases h with h | h
  · exact h.2
  · exact absurd (e.symm.trans h.1) (by decide)
theorem GX.t {g : Nat → Int32} {b c n : Nat} {gd : Int32} (h : GX g b c n gd) (e : ¬ gd = 0) : ALS g b c n := by
  rcases h with h | h
  · exact absurd h.1 e
  · exact h.2
theorem GX.z {g : Nat → Int32} {b c n : Nat} {gd : Int32} (h : GX g b c n gd) (e : gd = 0) : GX g b c (n + 1) 0 := Or.inl ⟨rfl, fun h9 => h.f e (fun k hk => h9 k (by omega))⟩
theorem GX.a {g : Nat → Int32} {b c n : Nat} {x : Int32} (e : x = g (b + (c + 2 * n))) (a : ¬ Wi x 0 5) : GX g b c (n + 1) 0 := Or.inl ⟨rfl, fun h9 => a (by rw [e]; exact (h9 n (by omega)).1)⟩
theorem GX.b {g : Nat → Int32} {b c n : Nat} {y : Int32} (e : y = g (b + (c + 2 * n + 1))) (a : ¬ Wi y 0 999) : GX g b c (n + 1) 0 := Or.inl ⟨rfl, fun h9 => a (by rw [e]; exact (h9 n (by omega)).2)⟩
theorem GX.n {g : Nat → Int32} {b c n : Nat} {gd x y : Int32} (h : GX g b c n gd) (hc : ¬ gd = 0) (e1 : x = g (b + (c + 2 * n))) (e2 : y = g (b + (c + 2 * n + 1))) (a1 : Wi x 0 5) (a2 : Wi y 0 999) : GX g b c (n + 1) 1 := Or.inr ⟨rfl, ALS.next (h.t hc) ⟨by rw [← e1]; exact a1, by rw [← e2]; exact a2⟩⟩
theorem APS.step {v f g : Nat → Int32} {k b c n : Nat} {pa x y : Int32} (h : ∀ j, j < 72 → v (104 + j) = APS f k pa g b c n j) (e1 : x = g (b + (c + 2 * n))) (e2 : y = g (b + (c + 2 * n + 1))) : ∀ i, i < 72 → rowu (shf v 104) ((k + n) * 3) [pa, x, y] i = APS f k pa g b c (n + 1) i := by
  intro i hi
  subst e1 e2
  exact rowu_congr (f := shf v 104) (g := APS f k pa g b c n) (n := 72) _ h i hi
theorem st_out {ji jn k : Nat} (hj : ji < 2 ^ 31) (hn : jn ≤ 9) (hk : k ≤ 40) (h : ¬ lg_cmp ((nI ji).toInt64 + 2 * (nI jn).toInt64) (nI k).toInt64 ≤ 0) : k < ji + 2 * jn := by
  have h9 : (nI k).toInt64 < (nI ji).toInt64 + 2 * (nI jn).toInt64 := by
    unfold lg_cmp at h
    by_cases c : (nI ji).toInt64 + 2 * (nI jn).toInt64 > (nI k).toInt64
    · exact c
    · rw [if_neg c] at h
      exact absurd (by split <;> decide) h
  have e2 : (2 : Int64).toInt = 2 := by decide
  rw [Int64.lt_iff_toInt_lt, Int64.toInt_add, Int64.toInt_mul, l_ti (by omega), l_ti (by omega), l_ti (by omega), e2, bmod64 (x := 2 * (jn : Int)) (by omega) (by omega), bmod64 (by omega) (by omega)] at h9
  omega
/-- the same rows behind, by sheets held alike -/
theorem APS.cg {f f2 g g2 : Nat → Int32} {k b c m : Nat} {pa : Int32} (hf : ∀ i, i < m → f i = f2 i) : ∀ n, (∀ i, i < 2 * n → g (b + (c + i)) = g2 (b + (c + i))) → ∀ i, i < m → APS f k pa g b c n i = APS f2 k pa g2 b c n i
  | 0, _ => hf
  | n + 1, h => fun i hi => by
    show rowu _ _ [pa, g (b + (c + 2 * n)), g (b + (c + (2 * n + 1)))] i = rowu _ _ [pa, g2 (b + (c + 2 * n)), g2 (b + (c + (2 * n + 1)))] i
    rw [h (2 * n) (by omega), h (2 * n + 1) (by omega)]
    exact rowu_congr (n := m) _ (APS.cg hf n (fun i hi => h i (by omega))) i hi
theorem ALS.cg {g g2 : Nat → Int32} {b c n : Nat} (h : ∀ i, i < 2 * n → g (b + (c + i)) = g2 (b + (c + i))) : ALS g b c n ↔ ALS g2 b c n := by
  constructor
  · intro a k hk
    have h1 := h (2 * k) (by omega)
    have h2 := h (2 * k + 1) (by omega)
    exact ⟨by rw [← h1]; exact (a k hk).1, by have h3 := (a k hk).2; rw [show c + 2 * k + 1 = c + (2 * k + 1) from rfl] at h3 ⊢; rw [← h2]; exact h3⟩
  · intro a k hk
    have h1 := h (2 * k) (by omega)
    have h2 := h (2 * k + 1) (by omega)
    exact ⟨by rw [h1]; exact (a k hk).1, by have h3 := (a k hk).2; rw [show c + 2 * k + 1 = c + (2 * k + 1) from rfl] at h3 ⊢; rw [h2]; exact h3⟩
theorem SHR.ok {hs hz hi so si it : Nat → Int32} (h : SHR hs hz hi so si it) : SOK hs := fun t ht => by rw [(h t ht).1]; exact (h t ht).2.2.1
/-- stamps answers alike -/
theorem STA.cg {hs hz hi so si it : Nat → Int32} {x1 x2 x3 x4 : Int32} {kp kst : Nat} (h : SHR hs hz hi so si it) (hz9 : SZ si) : STA x1 x2 x3 x4 kp kst hs hz hi = STA x1 x2 x3 x4 kp kst so si it := by
  unfold STA
  by_cases c1 : Hs x1 kp
  · rw [ifc_t c1, ifc_t c1]
    by_cases c2 : Wi x2 0 3
    · obtain ⟨j, hj, rfl⟩ := Wi3 c2
      rw [ifc_t c2, ifc_t c2, nI_clamp (n := j) (by omega)]
      obtain ⟨f1, f2, f3, f4⟩ := h j hj
      obtain ⟨k, hk, ek⟩ := hz9 j hj
      by_cases c3 : Wi x4 0 9
      · obtain ⟨n, hn, rfl⟩ := Wi_nat (N := 9) (by decide) c3
        rw [ifc_t c3, ifc_t c3, nI_clamp (n := n) (by omega), f1, f2]
        by_cases c4 : so j < 0
        · rw [ifc_t c4, ifc_t c4]
        · rw [ifc_f c4, ifc_f c4]
          by_cases c5 : so j = 1
          · rw [ifc_t c5, ifc_t c5]
            by_cases c6 : OUTS x3 (si j) (nI n)
            · rw [ifc_t c6, ifc_t c6]
            · rw [ifc_f c6, ifc_f c6]
              obtain ⟨i, hi9, rfl⟩ := nI_of (fun h9 => c6 (Or.inl h9))
              have hq : i + 2 * n ≤ k := Classical.byContradiction fun h9 => c6 (by
                refine Or.inr ?_
                rw [ek, nI_toInt (n := k) (by omega), nI_toInt (n := i) hi9, nI_toInt (n := n) (by omega)]
                omega)
              rw [nI_clamp (n := i) hi9]
              rcases f4 with f4 | f4
              · exact absurd f4 c4
              have hA : ALS hi (j * 40) i n ↔ ALS it (j * 40) i n := ALS.cg (fun q hq9 => f4 (i + q) (by omega))
              by_cases c7 : ALS it (j * 40) i n
              · rw [ifc_t c7, ifc_t (hA.mpr c7)]
              · rw [ifc_f c7, ifc_f (fun h9 => c7 (hA.mp h9))]
          · rw [ifc_f c5, ifc_f c5]
      · rw [ifc_f c3, ifc_f c3]
    · rw [ifc_f c2, ifc_f c2]
  · rw [ifc_f c1, ifc_f c1]
/-- where stamps doesn't refuse -/
theorem STA.ok {so si it : Nat → Int32} {x1 x2 x3 x4 : Int32} {kp kst : Nat} (h : ¬ STA x1 x2 x3 x4 kp kst so si it < 0) : ∃ j i n, j < 4 ∧ x2 = nI j ∧ i < 2 ^ 31 ∧ x3 = nI i ∧ n ≤ 9 ∧ x4 = nI n ∧ ¬ so j < 0 ∧ ¬ OUTS x3 (si j) x4 := by
  have no : ∀ {q : Prop} {a b : Int32}, b < 0 → ¬ ifc q a b < 0 → q ∧ ¬ a < 0 := fun {q a b} hb h9 => by
    by_cases c : q
    · rw [ifc_t c] at h9; exact ⟨c, h9⟩
    · rw [ifc_f c] at h9; exact absurd hb h9
  have ny : ∀ {q : Prop} {a b : Int32}, a < 0 → ¬ ifc q a b < 0 → ¬ q ∧ ¬ b < 0 := fun {q a b} hb h9 => by
    by_cases c : q
    · rw [ifc_t c] at h9; exact absurd hb h9
    · rw [ifc_f c] at h9; exact ⟨c, h9⟩
  unfold STA at h
  obtain ⟨h1, h⟩ := no (by decide) h
  obtain ⟨h2, h⟩ := no (by decide) h
  obtain ⟨h3, h⟩ := no (by decide) h
  obtain ⟨h4, h⟩ := ny (by decide) h
  obtain ⟨h5, h⟩ := no (by decide) h
  obtain ⟨h6, h⟩ := ny (by decide) h
  obtain ⟨j, hj, rfl⟩ := Wi3 h2
  rw [nI_clamp (n := j) (by omega)] at h4 h6
  obtain ⟨n, hn, rfl⟩ := Wi_nat (N := 9) (by decide) h3
  obtain ⟨i, hi9, e⟩ := nI_of (fun h9 => h6 (Or.inl h9))
  exact ⟨j, i, n, hj, rfl, hi9, e, hn, rfl, h4, h6⟩
theorem STA.tab {f f2 hs hz hi so si it : Nat → Int32} {x1 x2 x3 x4 : Int32} {kp kst : Nat} (h : SHR hs hz hi so si it) (hz9 : SZ si) (hf : ∀ i, i < 72 → f i = f2 i) (i : Nat) (hi9 : i < 72) : ifc (STA x1 x2 x3 x4 kp kst so si it < 0) (f i) (APS f kst x1 it (x2.toNatClampNeg * 40) x3.toNatClampNeg x4.toNatClampNeg i) = ifc (STA x1 x2 x3 x4 kp kst hs hz hi < 0) (f2 i) (APS f2 kst x1 hi (x2.toNatClampNeg * 40) x3.toNatClampNeg x4.toNatClampNeg i) := by
  rw [STA.cg h hz9]
  by_cases c : STA x1 x2 x3 x4 kp kst so si it < 0
  · rw [ifc_t c, ifc_t c]; exact hf i hi9
  · rw [ifc_f c, ifc_f c]
    obtain ⟨j, a, n, hj, rfl, ha, rfl, hn, rfl, h4, h6⟩ := STA.ok c
    obtain ⟨k, hk, ek⟩ := hz9 j hj
    have hq : a + 2 * n ≤ k := Classical.byContradiction fun h9 => h6 (by
      refine Or.inr ?_
      rw [ek, nI_toInt (n := k) (by omega), nI_toInt (n := a) ha, nI_toInt (n := n) (by omega)]
      omega)
    rw [nI_clamp (n := j) (by omega), nI_clamp (n := a) ha, nI_clamp (n := n) (by omega)]
    obtain ⟨-, -, -, f4⟩ := h j hj
    rcases f4 with f4 | f4
    · exact absurd f4 h4
    · exact APS.cg hf n (fun q hq9 => (f4 (a + q) (by omega)).symm) i hi9
section WR
variable {p : Program} {l : Launch} {e : Env} {R : Room} {s : State} {m : MethodId} {args : Array Value} {below : List Frame} {meth : Method} {c : Code} {H : Heap} {locs : List Loc} {cells slots : Nat} {Q : State → Prop}
variable {pc : Nat} {ls : Array Slot} {rest : List Value} {G : GG} {ws : va_W} {A : Nat → Prop} {y0 : MethodName} {b0 : ByteArray} {mL0 : Nat} {rt0 : Option FieldType} {a : Nat} {H0 : Heap}
theorem gX12_stamps_0 : (decode cX12_stamps 0 = .ok (.aload_n 0, 1)) ∧ (decode cX12_stamps 1 = .ok (.iload_n 1, 1)) ∧ (decode cX12_stamps 2 = .ok (.iconst 5, 1)) ∧ (decode cX12_stamps 3 = .ok (.invokevirtual 120, 3)) ∧ (decode cX12_stamps 6 = .ok (.ifCond .eq 21, 3)) ∧ (decode cX12_stamps 9 = .ok (.iload_n 2, 1)) ∧ (decode cX12_stamps 10 = .ok (.invokestatic 336, 3)) ∧ (decode cX12_stamps 13 = .ok (.ifCond .eq 14, 3)) ∧ (decode cX12_stamps 16 = .ok (.iload 4, 2)) ∧ (decode cX12_stamps 18 = .ok (.iconst 0, 1)) := by decide +kernel
theorem gX12_stamps_1 : (decode cX12_stamps 19 = .ok (.bipush 9, 2)) ∧ (decode cX12_stamps 21 = .ok (.invokestatic 84, 3)) ∧ (decode cX12_stamps 24 = .ok (.ifCond .ne 5, 3)) ∧ (decode cX12_stamps 27 = .ok (.iconst (-1), 1)) ∧ (decode cX12_stamps 28 = .ok (.ireturn, 1)) ∧ (decode cX12_stamps 29 = .ok (.aload_n 0, 1)) ∧ (decode cX12_stamps 30 = .ok (.getfield 63, 3)) ∧ (decode cX12_stamps 33 = .ok (.iload_n 2, 1)) ∧ (decode cX12_stamps 34 = .ok (.iaload, 1)) ∧ (decode cX12_stamps 35 = .ok (.ifCond .ge 8, 3)) := by decide +kernel
theorem gX12_stamps_2 : (decode cX12_stamps 38 = .ok (.bipush (-11), 2)) ∧ (decode cX12_stamps 40 = .ok (.goto 49, 3)) ∧ (decode cX12_stamps 43 = .ok (.aload_n 0, 1)) ∧ (decode cX12_stamps 44 = .ok (.getfield 63, 3)) ∧ (decode cX12_stamps 47 = .ok (.iload_n 2, 1)) ∧ (decode cX12_stamps 48 = .ok (.iaload, 1)) ∧ (decode cX12_stamps 49 = .ok (.iconst 1, 1)) ∧ (decode cX12_stamps 50 = .ok (.if_icmp .eq 8, 3)) ∧ (decode cX12_stamps 53 = .ok (.bipush (-13), 2)) ∧ (decode cX12_stamps 55 = .ok (.goto 34, 3)) := by decide +kernel
theorem gX12_stamps_3 : (decode cX12_stamps 58 = .ok (.iload_n 3, 1)) ∧ (decode cX12_stamps 59 = .ok (.ifCond .lt 24, 3)) ∧ (decode cX12_stamps 62 = .ok (.iload_n 3, 1)) ∧ (decode cX12_stamps 63 = .ok (.i2l, 1)) ∧ (decode cX12_stamps 64 = .ok (.ldc2_w 343, 3)) ∧ (decode cX12_stamps 67 = .ok (.iload 4, 2)) ∧ (decode cX12_stamps 69 = .ok (.i2l, 1)) ∧ (decode cX12_stamps 70 = .ok (.lmul, 1)) ∧ (decode cX12_stamps 71 = .ok (.ladd, 1)) ∧ (decode cX12_stamps 72 = .ok (.aload_n 0, 1)) := by decide +kernel
theorem gX12_stamps_4 : (decode cX12_stamps 73 = .ok (.getfield 66, 3)) ∧ (decode cX12_stamps 76 = .ok (.iload_n 2, 1)) ∧ (decode cX12_stamps 77 = .ok (.iaload, 1)) ∧ (decode cX12_stamps 78 = .ok (.i2l, 1)) ∧ (decode cX12_stamps 79 = .ok (.lcmp, 1)) ∧ (decode cX12_stamps 80 = .ok (.ifCond .le 8, 3)) ∧ (decode cX12_stamps 83 = .ok (.bipush (-12), 2)) ∧ (decode cX12_stamps 85 = .ok (.goto 4, 3)) ∧ (decode cX12_stamps 88 = .ok (.iconst 0, 1)) ∧ (decode cX12_stamps 89 = .ok (.istore 5, 2)) := by decide +kernel
theorem gX12_stamps_5 : (decode cX12_stamps 91 = .ok (.iload 5, 2)) ∧ (decode cX12_stamps 93 = .ok (.ifCond .eq 6, 3)) ∧ (decode cX12_stamps 96 = .ok (.iload 5, 2)) ∧ (decode cX12_stamps 98 = .ok (.ireturn, 1)) ∧ (decode cX12_stamps 99 = .ok (.bipush 40, 2)) ∧ (decode cX12_stamps 101 = .ok (.iload_n 2, 1)) ∧ (decode cX12_stamps 102 = .ok (.imul, 1)) ∧ (decode cX12_stamps 103 = .ok (.iload_n 3, 1)) ∧ (decode cX12_stamps 104 = .ok (.iadd, 1)) ∧ (decode cX12_stamps 105 = .ok (.istore 6, 2)) := by decide +kernel
theorem m_1376 : Cond.constantLong RX12 343 (2) ∈ BW := iB_BW73 _ (List.mem_of_getElem? (i := 12) rfl)
theorem gX12_stamps_6 : (decode cX12_stamps 107 = .ok (.iconst 1, 1)) ∧ (decode cX12_stamps 108 = .ok (.istore 7, 2)) ∧ (decode cX12_stamps 110 = .ok (.iconst 0, 1)) ∧ (decode cX12_stamps 111 = .ok (.istore 8, 2)) ∧ (decode cX12_stamps 113 = .ok (.iload 8, 2)) ∧ (decode cX12_stamps 115 = .ok (.iload 4, 2)) ∧ (decode cX12_stamps 117 = .ok (.if_icmp .ge 65, 3)) ∧ (decode cX12_stamps 120 = .ok (.iload 7, 2)) ∧ (decode cX12_stamps 122 = .ok (.ifCond .eq 51, 3)) ∧ (decode cX12_stamps 125 = .ok (.aload_n 0, 1)) := by decide +kernel
theorem gX12_stamps_10 : (decode cX12_stamps 179 = .ok (.goto (-66), 3)) ∧ (decode cX12_stamps 182 = .ok (.iload 7, 2)) ∧ (decode cX12_stamps 184 = .ok (.ifCond .ne 6, 3)) ∧ (decode cX12_stamps 187 = .ok (.bipush (-4), 2)) ∧ (decode cX12_stamps 189 = .ok (.ireturn, 1)) ∧ (decode cX12_stamps 190 = .ok (.aload_n 0, 1)) ∧ (decode cX12_stamps 191 = .ok (.getfield 9, 3)) ∧ (decode cX12_stamps 194 = .ok (.bipush 6, 2)) ∧ (decode cX12_stamps 196 = .ok (.iaload, 1)) ∧ (decode cX12_stamps 197 = .ok (.iload 4, 2)) := by decide +kernel
theorem gX12_stamps_11 : (decode cX12_stamps 199 = .ok (.iadd, 1)) ∧ (decode cX12_stamps 200 = .ok (.bipush 24, 2)) ∧ (decode cX12_stamps 202 = .ok (.if_icmp .le 6, 3)) ∧ (decode cX12_stamps 205 = .ok (.bipush (-2), 2)) ∧ (decode cX12_stamps 207 = .ok (.ireturn, 1)) ∧ (decode cX12_stamps 208 = .ok (.iconst 0, 1)) ∧ (decode cX12_stamps 209 = .ok (.istore 8, 2)) ∧ (decode cX12_stamps 211 = .ok (.iload 8, 2)) ∧ (decode cX12_stamps 213 = .ok (.iload 4, 2)) ∧ (decode cX12_stamps 215 = .ok (.if_icmp .ge 40, 3)) := by decide +kernel
theorem gX12_stamps_14 : (decode cX12_stamps 246 = .ok (.invokevirtual 133, 3)) ∧ (decode cX12_stamps 249 = .ok (.iinc 8 1, 3)) ∧ (decode cX12_stamps 252 = .ok (.goto (-41), 3)) ∧ (decode cX12_stamps 255 = .ok (.aload_n 0, 1)) ∧ (decode cX12_stamps 256 = .ok (.getfield 9, 3)) ∧ (decode cX12_stamps 259 = .ok (.bipush 6, 2)) ∧ (decode cX12_stamps 261 = .ok (.iaload, 1)) ∧ (decode cX12_stamps 262 = .ok (.ireturn, 1)) := by decide +kernel
theorem gX12_stamps_12 : (decode cX12_stamps 218 = .ok (.aload_n 0, 1)) ∧ (decode cX12_stamps 219 = .ok (.iload_n 1, 1)) ∧ (decode cX12_stamps 220 = .ok (.aload_n 0, 1)) ∧ (decode cX12_stamps 221 = .ok (.getfield 69, 3)) ∧ (decode cX12_stamps 224 = .ok (.iload 6, 2)) ∧ (decode cX12_stamps 226 = .ok (.iconst 2, 1)) ∧ (decode cX12_stamps 227 = .ok (.iload 8, 2)) ∧ (decode cX12_stamps 229 = .ok (.imul, 1)) ∧ (decode cX12_stamps 230 = .ok (.iadd, 1)) ∧ (decode cX12_stamps 231 = .ok (.iaload, 1)) := by decide +kernel
theorem gX12_stamps_13 : (decode cX12_stamps 232 = .ok (.aload_n 0, 1)) ∧ (decode cX12_stamps 233 = .ok (.getfield 69, 3)) ∧ (decode cX12_stamps 236 = .ok (.iload 6, 2)) ∧ (decode cX12_stamps 238 = .ok (.iconst 2, 1)) ∧ (decode cX12_stamps 239 = .ok (.iload 8, 2)) ∧ (decode cX12_stamps 241 = .ok (.imul, 1)) ∧ (decode cX12_stamps 242 = .ok (.iadd, 1)) ∧ (decode cX12_stamps 243 = .ok (.iconst 1, 1)) ∧ (decode cX12_stamps 244 = .ok (.iadd, 1)) ∧ (decode cX12_stamps 245 = .ok (.iaload, 1)) := by decide +kernel
theorem gX12_stamps_9 : (decode cX12_stamps 158 = .ok (.iaload, 1)) ∧ (decode cX12_stamps 159 = .ok (.iconst 0, 1)) ∧ (decode cX12_stamps 160 = .ok (.sipush 999, 3)) ∧ (decode cX12_stamps 163 = .ok (.invokestatic 84, 3)) ∧ (decode cX12_stamps 166 = .ok (.ifCond .eq 7, 3)) ∧ (decode cX12_stamps 169 = .ok (.iconst 1, 1)) ∧ (decode cX12_stamps 170 = .ok (.goto 4, 3)) ∧ (decode cX12_stamps 173 = .ok (.iconst 0, 1)) ∧ (decode cX12_stamps 174 = .ok (.istore 7, 2)) ∧ (decode cX12_stamps 176 = .ok (.iinc 8 1, 3)) := by decide +kernel
theorem gX12_stamps_7 : (decode cX12_stamps 126 = .ok (.getfield 69, 3)) ∧ (decode cX12_stamps 129 = .ok (.iload 6, 2)) ∧ (decode cX12_stamps 131 = .ok (.iconst 2, 1)) ∧ (decode cX12_stamps 132 = .ok (.iload 8, 2)) ∧ (decode cX12_stamps 134 = .ok (.imul, 1)) ∧ (decode cX12_stamps 135 = .ok (.iadd, 1)) ∧ (decode cX12_stamps 136 = .ok (.iaload, 1)) ∧ (decode cX12_stamps 137 = .ok (.iconst 0, 1)) ∧ (decode cX12_stamps 138 = .ok (.iconst 5, 1)) ∧ (decode cX12_stamps 139 = .ok (.invokestatic 84, 3)) := by decide +kernel
theorem gX12_stamps_8 : (decode cX12_stamps 142 = .ok (.ifCond .eq 31, 3)) ∧ (decode cX12_stamps 145 = .ok (.aload_n 0, 1)) ∧ (decode cX12_stamps 146 = .ok (.getfield 69, 3)) ∧ (decode cX12_stamps 149 = .ok (.iload 6, 2)) ∧ (decode cX12_stamps 151 = .ok (.iconst 2, 1)) ∧ (decode cX12_stamps 152 = .ok (.iload 8, 2)) ∧ (decode cX12_stamps 154 = .ok (.imul, 1)) ∧ (decode cX12_stamps 155 = .ok (.iadd, 1)) ∧ (decode cX12_stamps 156 = .ok (.iconst 1, 1)) ∧ (decode cX12_stamps 157 = .ok (.iadd, 1)) := by decide +kernel
end WR
/-- what the reference lays on a shelf -/
def SLV (x2 x3 s z a b c : Int32) : Prop := (x2 = 3 → (s < 0 → a = 0) ∧ (¬ s < 0 → a = 4 ∧ b = s ∧ c = z)) ∧ (x2 = 4 → a = 0) ∧ (x2 = 0 ∨ x2 = 1 ∨ x2 = 2 → a = x2 + 1 ∧ b = x3)
/-- one shelf held alike -/
def SL1 (w n t s o z : Int32) : Prop := (w = 4 ∧ s = 0) ∨ (w = 0 ∧ s = 1 ∧ n = o) ∨ (w = 1 ∧ s = 2 ∧ n = o) ∨ (w = 2 ∧ s = 3 ∧ n = o) ∨ (w = 3 ∧ s = 4 ∧ t = o ∧ n = z ∧ Wi t 0 4)
def SLR (hw hn ht sh sf ss : Nat → Int32) : Prop := ∀ t, t < 4 → SL1 (hw t) (hn t) (ht t) (sh t) (sf t) (ss t)
theorem wi_04 {x : Int32} (h : Wi x (-1) 4) (h2 : ¬ x < 0) : Wi x 0 4 := ⟨h2, h.2⟩
theorem SLR.sh {hw hn ht sh sf ss hs hz hi so si it gw gn gt ksh ksf kss : Nat → Int32} {x1 x2 x3 : Int32} {kp ks kf : Nat} (h : SLR hw hn ht sh sf ss) (hR : SHR hs hz hi so si it)
    (hc : (SHX x1 x2 x3 kp ks kf = 1 → (x2 = 3 → gw = upd hw x1.toNatClampNeg (ifc (hs x3.toNatClampNeg = (-1)) 4 3) ∧ gn = upd hn x1.toNatClampNeg (hz x3.toNatClampNeg) ∧ gt = upd ht x1.toNatClampNeg (hs x3.toNatClampNeg)) ∧ (¬ x2 = 3 → gw = upd hw x1.toNatClampNeg x2 ∧ gn = upd hn x1.toNatClampNeg x3 ∧ gt = ht)) ∧ (¬ SHX x1 x2 x3 kp ks kf = 1 → gw = hw ∧ gn = hn ∧ gt = ht))
    (hm : (SHX x1 x2 x3 kp ks kf = 1 → ∃ a b c : Int32, ksh = upd sh x1.toNatClampNeg a ∧ ksf = upd sf x1.toNatClampNeg b ∧ kss = upd ss x1.toNatClampNeg c ∧ SLV x2 x3 (so x3.toNatClampNeg) (si x3.toNatClampNeg) a b c) ∧ (¬ SHX x1 x2 x3 kp ks kf = 1 → ksh = sh ∧ ksf = sf ∧ kss = ss)) : SLR gw gn gt ksh ksf kss := by
  by_cases hE : SHX x1 x2 x3 kp ks kf = 1
  · obtain ⟨a, b, c, e1, e2, e3, hv⟩ := hm.1 hE
    obtain ⟨h1, h2⟩ := SHX.one hE
    subst e1 e2 e3
    intro t ht9
    by_cases ct : t = x1.toNatClampNeg
    · by_cases c3 : x2 = 3
      · obtain ⟨d1, d2, d3⟩ := (hc.1 hE).1 c3
        subst d1 d2 d3
        have h3 : Wi x3 0 3 := by
          rcases h2 with h2 | h2 | h2 | h2 | h2
          · exact absurd (c3.symm.trans h2) (by decide)
          · exact absurd (c3.symm.trans h2) (by decide)
          · exact absurd (c3.symm.trans h2) (by decide)
          · exact h2.2
          · exact absurd (c3.symm.trans h2) (by decide)
        obtain ⟨j, hj, rfl⟩ := Wi3 h3
        obtain ⟨f1, f2, f3, -⟩ := hR j hj
        rw [nI_clamp (n := j) (by omega)] at hv ⊢
        rw [f1, f2]
        unfold upd
        rw [if_pos ct, if_pos ct, if_pos ct, if_pos ct, if_pos ct, if_pos ct]
        by_cases c5 : so j < 0
        · exact Or.inl ⟨ifc_t (wi_m1 f3 c5), (hv.1 c3).1 c5⟩
        · obtain ⟨v1, v2, v3⟩ := (hv.1 c3).2 c5
          exact Or.inr (Or.inr (Or.inr (Or.inr ⟨ifc_f (fun h9 => c5 (by rw [h9]; decide)), v1, v2.symm, v3.symm, wi_04 f3 c5⟩)))
      · obtain ⟨d1, d2, d3⟩ := (hc.1 hE).2 c3
        subst d1 d2 d3
        unfold upd
        rw [if_pos ct, if_pos ct, if_pos ct, if_pos ct, if_pos ct]
        rcases h2 with h2 | h2 | h2 | h2 | h2
        · obtain ⟨v1, v2⟩ := hv.2.2 (Or.inl h2)
          exact Or.inr (Or.inl ⟨h2, v1.trans (by rw [h2]; decide), v2.symm⟩)
        · obtain ⟨v1, v2⟩ := hv.2.2 (Or.inr (Or.inl h2))
          exact Or.inr (Or.inr (Or.inl ⟨h2, v1.trans (by rw [h2]; decide), v2.symm⟩))
        · obtain ⟨v1, v2⟩ := hv.2.2 (Or.inr (Or.inr h2))
          exact Or.inr (Or.inr (Or.inr (Or.inl ⟨h2, v1.trans (by rw [h2]; decide), v2.symm⟩)))
        · exact absurd h2.1 c3
        · exact Or.inl ⟨h2, hv.2.1 h2⟩
    · have hk := h t ht9
      by_cases c3 : x2 = 3
      · obtain ⟨d1, d2, d3⟩ := (hc.1 hE).1 c3
        subst d1 d2 d3
        unfold upd
        rw [if_neg ct, if_neg ct, if_neg ct, if_neg ct, if_neg ct, if_neg ct]
        exact hk
      · obtain ⟨d1, d2, d3⟩ := (hc.1 hE).2 c3
        subst d1 d2 d3
        unfold upd
        rw [if_neg ct, if_neg ct, if_neg ct, if_neg ct, if_neg ct]
        exact hk
  · obtain ⟨a1, a2, a3⟩ := hc.2 hE
    obtain ⟨b1, b2, b3⟩ := hm.2 hE
    subst a1 a2 a3 b1 b2 b3
    exact h
section WR
variable {p : Program} {l : Launch} {e : Env} {R : Room} {s : State} {m : MethodId} {args : Array Value} {below : List Frame} {meth : Method} {c : Code} {H : Heap} {locs : List Loc} {cells slots : Nat} {Q : State → Prop}
variable {pc : Nat} {ls : Array Slot} {rest : List Value} {G : GG} {ws : va_W} {A : Nat → Prop} {y0 : MethodName} {b0 : ByteArray} {mL0 : Nat} {rt0 : Option FieldType} {a : Nat} {H0 : Heap}
theorem gX12_shelf_0 : (decode cX12_shelf 0 = .ok (.iload_n 2, 1)) ∧ (decode cX12_shelf 1 = .ok (.ifCond .ne 12, 3)) ∧ (decode cX12_shelf 4 = .ok (.aload_n 0, 1)) ∧ (decode cX12_shelf 5 = .ok (.iload_n 3, 1)) ∧ (decode cX12_shelf 6 = .ok (.iconst 5, 1)) ∧ (decode cX12_shelf 7 = .ok (.invokevirtual 120, 3)) ∧ (decode cX12_shelf 10 = .ok (.goto 50, 3)) ∧ (decode cX12_shelf 13 = .ok (.iload_n 2, 1)) ∧ (decode cX12_shelf 14 = .ok (.iconst 1, 1)) ∧ (decode cX12_shelf 15 = .ok (.if_icmp .ne 13, 3)) := by decide +kernel
theorem gX12_shelf_1 : (decode cX12_shelf 18 = .ok (.aload_n 0, 1)) ∧ (decode cX12_shelf 19 = .ok (.iload_n 3, 1)) ∧ (decode cX12_shelf 20 = .ok (.bipush 8, 2)) ∧ (decode cX12_shelf 22 = .ok (.invokevirtual 120, 3)) ∧ (decode cX12_shelf 25 = .ok (.goto 35, 3)) ∧ (decode cX12_shelf 28 = .ok (.iload_n 2, 1)) ∧ (decode cX12_shelf 29 = .ok (.iconst 2, 1)) ∧ (decode cX12_shelf 30 = .ok (.if_icmp .ne 13, 3)) ∧ (decode cX12_shelf 33 = .ok (.aload_n 0, 1)) ∧ (decode cX12_shelf 34 = .ok (.iload_n 3, 1)) := by decide +kernel
theorem gX12_shelf_2 : (decode cX12_shelf 35 = .ok (.bipush 9, 2)) ∧ (decode cX12_shelf 37 = .ok (.invokevirtual 120, 3)) ∧ (decode cX12_shelf 40 = .ok (.goto 20, 3)) ∧ (decode cX12_shelf 43 = .ok (.iload_n 2, 1)) ∧ (decode cX12_shelf 44 = .ok (.iconst 3, 1)) ∧ (decode cX12_shelf 45 = .ok (.if_icmp .ne 10, 3)) ∧ (decode cX12_shelf 48 = .ok (.iload_n 3, 1)) ∧ (decode cX12_shelf 49 = .ok (.invokestatic 336, 3)) ∧ (decode cX12_shelf 52 = .ok (.ifCond .eq 7, 3)) ∧ (decode cX12_shelf 55 = .ok (.iconst 1, 1)) := by decide +kernel
theorem gX12_shelf_3 : (decode cX12_shelf 56 = .ok (.goto 4, 3)) ∧ (decode cX12_shelf 59 = .ok (.iconst 0, 1)) ∧ (decode cX12_shelf 60 = .ok (.istore 4, 2)) ∧ (decode cX12_shelf 62 = .ok (.iload_n 1, 1)) ∧ (decode cX12_shelf 63 = .ok (.invokestatic 336, 3)) ∧ (decode cX12_shelf 66 = .ok (.ifCond .eq 17, 3)) ∧ (decode cX12_shelf 69 = .ok (.iload_n 2, 1)) ∧ (decode cX12_shelf 70 = .ok (.iconst 0, 1)) ∧ (decode cX12_shelf 71 = .ok (.iconst 4, 1)) ∧ (decode cX12_shelf 72 = .ok (.invokestatic 84, 3)) := by decide +kernel
theorem gX12_shelf_4 : (decode cX12_shelf 75 = .ok (.ifCond .eq 8, 3)) ∧ (decode cX12_shelf 78 = .ok (.iload 4, 2)) ∧ (decode cX12_shelf 80 = .ok (.ifCond .ne 5, 3)) ∧ (decode cX12_shelf 83 = .ok (.iconst (-1), 1)) ∧ (decode cX12_shelf 84 = .ok (.ireturn, 1)) ∧ (decode cX12_shelf 85 = .ok (.iload_n 2, 1)) ∧ (decode cX12_shelf 86 = .ok (.iconst 4, 1)) ∧ (decode cX12_shelf 87 = .ok (.if_icmp .eq 17, 3)) ∧ (decode cX12_shelf 90 = .ok (.iload_n 2, 1)) ∧ (decode cX12_shelf 91 = .ok (.iconst 3, 1)) := by decide +kernel
theorem gX12_shelf_5 : (decode cX12_shelf 92 = .ok (.if_icmp .ne 16, 3)) ∧ (decode cX12_shelf 95 = .ok (.aload_n 0, 1)) ∧ (decode cX12_shelf 96 = .ok (.getfield 63, 3)) ∧ (decode cX12_shelf 99 = .ok (.iload_n 3, 1)) ∧ (decode cX12_shelf 100 = .ok (.iaload, 1)) ∧ (decode cX12_shelf 101 = .ok (.ifCond .ge 7, 3)) ∧ (decode cX12_shelf 104 = .ok (.iconst 1, 1)) ∧ (decode cX12_shelf 105 = .ok (.goto 4, 3)) ∧ (decode cX12_shelf 108 = .ok (.iconst 0, 1)) ∧ (decode cX12_shelf 109 = .ok (.istore 5, 2)) := by decide +kernel
theorem gX12_shelf_6 : (decode cX12_shelf 111 = .ok (.aload_n 0, 1)) ∧ (decode cX12_shelf 112 = .ok (.getfield 72, 3)) ∧ (decode cX12_shelf 115 = .ok (.iload_n 1, 1)) ∧ (decode cX12_shelf 116 = .ok (.iload 5, 2)) ∧ (decode cX12_shelf 118 = .ok (.ifCond .eq 7, 3)) ∧ (decode cX12_shelf 121 = .ok (.iconst 0, 1)) ∧ (decode cX12_shelf 122 = .ok (.goto 6, 3)) ∧ (decode cX12_shelf 125 = .ok (.iload_n 2, 1)) ∧ (decode cX12_shelf 126 = .ok (.iconst 1, 1)) ∧ (decode cX12_shelf 127 = .ok (.iadd, 1)) := by decide +kernel
theorem m_1061 : Cond.fieldLink RX12 72 "InquiryBenchModel" "shelves" "[I" ∈ BW := iB_BW56 _ (List.mem_of_getElem? (i := 10) rfl)
theorem gf_X12_72 (hC : CX p s m meth c y0 b0 mL0 rt0 args) (hy0 : y0.cls = RX12) (hK : KK G s) (hP : va_P G.1 vwCl ws H) (q0 : Nat) {fs : List Value} {v : Value} (he : ws[q0]? = some (a, .inr (12, fs))) (hv : fs[31]? = some v) (hdg : decode b0 pc = .ok (.getfield 72, 3)) (kk : W p l e R s m args below meth c H locs cells slots Q (F0 m (pc + 3) ls (v :: rest))) : W p l e R s m args below meth c H locs cells slots Q (F0 m pc ls (.ref a :: rest)) := by
  obtain ⟨hx, hb, hr, hml, hB, hown, hlocks, hnm⟩ := hC
  rw [hy0] at hown
  exact va_get (ci := 12) (C := RX12) (T := TX12) (N := 41) hx hb hB in_X12 hown hK.1 hP q0 he rfl 31 (by decide) (hB _ m_1061) (fun _ h => h) hv hdg kk
theorem gX12_shelf_7 : (decode cX12_shelf 128 = .ok (.iastore, 1)) ∧ (decode cX12_shelf 129 = .ok (.aload_n 0, 1)) ∧ (decode cX12_shelf 130 = .ok (.getfield 75, 3)) ∧ (decode cX12_shelf 133 = .ok (.iload_n 1, 1)) ∧ (decode cX12_shelf 134 = .ok (.iload 5, 2)) ∧ (decode cX12_shelf 136 = .ok (.ifCond .eq 7, 3)) ∧ (decode cX12_shelf 139 = .ok (.iconst 0, 1)) ∧ (decode cX12_shelf 140 = .ok (.goto 18, 3)) ∧ (decode cX12_shelf 143 = .ok (.iload_n 2, 1)) ∧ (decode cX12_shelf 144 = .ok (.iconst 3, 1)) := by decide +kernel
theorem m_1062 : Cond.fieldLink RX12 75 "InquiryBenchModel" "shelfOf" "[I" ∈ BW := iB_BW56 _ (List.mem_of_getElem? (i := 11) rfl)
theorem gf_X12_75 (hC : CX p s m meth c y0 b0 mL0 rt0 args) (hy0 : y0.cls = RX12) (hK : KK G s) (hP : va_P G.1 vwCl ws H) (q0 : Nat) {fs : List Value} {v : Value} (he : ws[q0]? = some (a, .inr (12, fs))) (hv : fs[32]? = some v) (hdg : decode b0 pc = .ok (.getfield 75, 3)) (kk : W p l e R s m args below meth c H locs cells slots Q (F0 m (pc + 3) ls (v :: rest))) : W p l e R s m args below meth c H locs cells slots Q (F0 m pc ls (.ref a :: rest)) := by
  obtain ⟨hx, hb, hr, hml, hB, hown, hlocks, hnm⟩ := hC
  rw [hy0] at hown
  exact va_get (ci := 12) (C := RX12) (T := TX12) (N := 41) hx hb hB in_X12 hown hK.1 hP q0 he rfl 32 (by decide) (hB _ m_1062) (fun _ h => h) hv hdg kk
theorem gX12_shelf_8 : (decode cX12_shelf 145 = .ok (.if_icmp .ne 12, 3)) ∧ (decode cX12_shelf 148 = .ok (.aload_n 0, 1)) ∧ (decode cX12_shelf 149 = .ok (.getfield 63, 3)) ∧ (decode cX12_shelf 152 = .ok (.iload_n 3, 1)) ∧ (decode cX12_shelf 153 = .ok (.iaload, 1)) ∧ (decode cX12_shelf 154 = .ok (.goto 4, 3)) ∧ (decode cX12_shelf 157 = .ok (.iload_n 3, 1)) ∧ (decode cX12_shelf 158 = .ok (.iastore, 1)) ∧ (decode cX12_shelf 159 = .ok (.aload_n 0, 1)) ∧ (decode cX12_shelf 160 = .ok (.getfield 78, 3)) := by decide +kernel
theorem m_1063 : Cond.fieldLink RX12 78 "InquiryBenchModel" "shelfSize" "[I" ∈ BW := iB_BW56 _ (List.mem_of_getElem? (i := 12) rfl)
theorem gf_X12_78 (hC : CX p s m meth c y0 b0 mL0 rt0 args) (hy0 : y0.cls = RX12) (hK : KK G s) (hP : va_P G.1 vwCl ws H) (q0 : Nat) {fs : List Value} {v : Value} (he : ws[q0]? = some (a, .inr (12, fs))) (hv : fs[33]? = some v) (hdg : decode b0 pc = .ok (.getfield 78, 3)) (kk : W p l e R s m args below meth c H locs cells slots Q (F0 m (pc + 3) ls (v :: rest))) : W p l e R s m args below meth c H locs cells slots Q (F0 m pc ls (.ref a :: rest)) := by
  obtain ⟨hx, hb, hr, hml, hB, hown, hlocks, hnm⟩ := hC
  rw [hy0] at hown
  exact va_get (ci := 12) (C := RX12) (T := TX12) (N := 41) hx hb hB in_X12 hown hK.1 hP q0 he rfl 33 (by decide) (hB _ m_1063) (fun _ h => h) hv hdg kk
theorem gX12_shelf_9 : (decode cX12_shelf 163 = .ok (.iload_n 1, 1)) ∧ (decode cX12_shelf 164 = .ok (.iload 5, 2)) ∧ (decode cX12_shelf 166 = .ok (.ifCond .ne 8, 3)) ∧ (decode cX12_shelf 169 = .ok (.iload_n 2, 1)) ∧ (decode cX12_shelf 170 = .ok (.iconst 3, 1)) ∧ (decode cX12_shelf 171 = .ok (.if_icmp .ge 7, 3)) ∧ (decode cX12_shelf 174 = .ok (.iconst 0, 1)) ∧ (decode cX12_shelf 175 = .ok (.goto 9, 3)) ∧ (decode cX12_shelf 178 = .ok (.aload_n 0, 1)) ∧ (decode cX12_shelf 179 = .ok (.getfield 66, 3)) := by decide +kernel
theorem gX12_shelf_10 : (decode cX12_shelf 182 = .ok (.iload_n 3, 1)) ∧ (decode cX12_shelf 183 = .ok (.iaload, 1)) ∧ (decode cX12_shelf 184 = .ok (.iastore, 1)) ∧ (decode cX12_shelf 185 = .ok (.iconst 1, 1)) ∧ (decode cX12_shelf 186 = .ok (.ireturn, 1)) := by decide +kernel
end WR
theorem dj_0_1_2_3__4 : ∀ i ∈ ([4] : List Nat), i ∉ ([0, 1, 2, 3] : List Nat) := by decide
theorem dj_0_1__2_3_4 : ∀ i ∈ ([2, 3, 4] : List Nat), i ∉ ([0, 1] : List Nat) := by decide
theorem fm_3_4_0_1_2 {a0 a1 a2 a3 a4 : Nat × va_E} {l : va_W} : ([3, 4, 0, 1, 2] : List Nat).filterMap (fun i => (a0 :: a1 :: a2 :: a3 :: a4 :: l : va_W)[i]?) = ([a3, a4, a0, a1, a2] : va_W) := rfl
theorem nd_3_4_0_1_2 : va_nd [3, 4, 0, 1, 2] = true := by decide
theorem sm_3_4_0_1_2 {a0 a1 a2 a3 a4 : Nat × va_E} {l : va_W} : ([3, 4, 0, 1, 2] : List Nat).map (fun i => (a0 :: a1 :: a2 :: a3 :: a4 :: l : va_W)[i]?) = ([a3, a4, a0, a1, a2] : va_W).map some := rfl
def K_m_bits7 (l : Launch) (G : GG) (jb : Nat) : Prop := MP l G yX12_bits cX12_bits 3 (some .int) 1 [.int (nI jb)] [] (fun r : Int32 => ∃ b9, (b9 ≤ 7) ∧ r = nI b9)
set_option maxHeartbeats 4000000 in
set_option maxRecDepth 100000 in
theorem m_bits7 (l : Launch) (G : GG) (jb : Nat) (hjb : jb < 128) : K_m_bits7 l G jb := by
  refine MP.start (by decide +kernel) (Nat.le_of_ble_eq_true rfl) ?_
  intro p e s m below meth c ls hC hK hP hD hl
  refine absQ (fun Q0 hQ0 => ?_)
  have hl : lv_has ls 3 [(0, .int (nI jb))] := hl
  refine Kan8 hC (fun hx hb hr hml hB hown hlocks hnm => ?_)
  refine lv_iconst (v := 0) hx hb gX12_bits_0.1 (by decide) ?_
  refine lv_istore_n (lv' := [(1, .int 0), (0, .int (nI jb))]) hx hb gX12_bits_0.2.1 rfl hl (by decide) rfl (fun ls hl => ?_)
  refine lv_iconst (v := 0) hx hb gX12_bits_0.2.2.1 (by decide) ?_
  refine lv_istore_n (lv' := [(2, .int 0), (1, .int 0), (0, .int (nI jb))]) hx hb gX12_bits_0.2.2.2.1 rfl hl (by decide) rfl (fun ls hl => ?_)
  have keyP : ∀ (nP kP : Nat) (nn : Int32) (ls : Array Slot), kP + nP = 16 → (∃ c, (c ≤ kP ∧ c ≤ 7) ∧ nn = nI c) → lv_has ls 3 [(2, .int (nI kP)), (1, .int nn), (0, .int (nI jb))] → W p l e (RM 1 0 0) s m ([.int (nI jb)] : List Value).toArray below meth c s.heap [] 0 0 Q0 (F0 m 4 ls []) := by
    intro nP
    induction nP with
    | zero =>
      intro kP nn ls hkP hnn hl
      obtain rfl : 16 = kP := by omega
      have hl : lv_has ls 3 [(2, .int 16), (1, .int nn), (0, .int (nI jb))] := hl
      refine lv_iload_n hx hb gX12_bits_0.2.2.2.2.1 rfl (lv_at0 hl) ?_
      refine lv_bipush (v := 16) hx hb gX12_bits_0.2.2.2.2.2.1 (by decide) ?_
      refine lv_icmp_ge (tgt := 24) hx hb gX12_bits_0.2.2.2.2.2.2.1 (by decide) (fun _ => ?_) (fun c9 => absurd (by decide) c9)
      refine lv_iload_n hx hb gX12_bits_1.2.2.2.2.2.2.2.1 rfl (lv_at1 hl) ?_
      refine toQ hQ0 ?_
      exact RP (v := nn) hC (hnn.elim fun c9 h9 => ⟨c9, h9.1.2, h9.2⟩) rfl gX12_bits_1.2.2.2.2.2.2.2.2
    | succ nP ihP =>
      intro kP nn ls hkP hnn hl
      refine lv_iload_n hx hb gX12_bits_0.2.2.2.2.1 rfl (lv_at0 hl) ?_
      refine lv_bipush (v := 16) hx hb gX12_bits_0.2.2.2.2.2.1 (by decide) ?_
      refine lv_icmp_ge (tgt := 24) hx hb gX12_bits_0.2.2.2.2.2.2.1 (by decide) (fun c9 => absurd c9 (nI_ge (a := kP) (b := 16) (by omega) (by omega))) (fun _ => ?_)
      refine lv_iload_n hx hb gX12_bits_0.2.2.2.2.2.2.2.1 rfl (lv_at1 hl) ?_
      refine lv_iload_n hx hb gX12_bits_0.2.2.2.2.2.2.2.2.1 rfl (lv_at2 hl) ?_
      refine lv_iload_n hx hb gX12_bits_0.2.2.2.2.2.2.2.2.2 rfl (lv_at0 hl) ?_
      refine lv_ishr hx hb gX12_bits_1.1 ?_
      refine lv_iconst (v := 1) hx hb gX12_bits_1.2.1 (by decide) ?_
      refine lv_iand hx hb gX12_bits_1.2.2.1 ?_
      refine lv_iadd hx hb gX12_bits_1.2.2.2.1 ?_
      refine lv_istore_n (lv' := [(1, .int (nn + (((nI jb) >>> ((nI kP) &&& 31)) &&& 1))), (2, .int (nI kP)), (0, .int (nI jb))]) hx hb gX12_bits_1.2.2.2.2.1 rfl hl (by decide) rfl (fun ls hl => ?_)
      refine lv_iinc (v := nI (kP + 1)) (lv' := [(2, .int (nI (kP + 1))), (1, .int (nn + (((nI jb) >>> ((nI kP) &&& 31)) &&& 1))), (0, .int (nI jb))]) hx hb gX12_bits_1.2.2.2.2.2.1 hl (k := 1) rfl (nI_1 _) (by decide) rfl (fun ls hl => ?_)
      refine lv_goto (tgt := 4) hx hb gX12_bits_1.2.2.2.2.2.2.1 (by decide) ?_
      exact ihP (kP + 1) (nn + (((nI jb) >>> ((nI kP) &&& 31)) &&& 1)) _ (by omega) (by first | assumption | exact Or.inl rfl | exact Or.inr rfl | exact ⟨0, by omega, rfl⟩ | exact hnn.elim fun c9 h9 => bits7 hjb (by omega) h9.1 h9.2 rfl) (lv_sub hl [0, 1, 2] rfl)
  exact keyP 16 0 0 _ (by omega) (by first | assumption | exact Or.inl rfl | exact Or.inr rfl | exact ⟨0, by omega, rfl⟩ | exact hnn.elim fun c9 h9 => bits7 hjb (by omega) h9.1 h9.2 rfl) (lv_sub hl [0, 1, 2] rfl)
def K_m_go_step (l : Launch) (G : GG) (mn : Nat) (h0 : Nat) (k9 : Nat) (jl : Nat) (ov : Int32) (cd : Int32) (co : Int32) (nw : Nat) (nk : Nat) (mhasKept : Int32) (nt : Nat) (mtaped : Int32) (nr : Nat) (mrowMany : Int32) (mroundOf : Int32) (mroundFrom : Int32) (mouts : Int32) (nm : Nat) (mfromHour : Int32) (mtoHour : Int32) (ns : Nat) (mfrom : Int32) (mto : Int32) (msort : Int32) (misFault : Int32) (mdeep : Int32) (mcoded : Int32) (mlines : Int32) (nl : Nat) (nc : Nat) (nF : Nat) (np : Nat) (ntr : Nat) (nb : Nat) (bc : Int32) (nso : Nat) (nsi : Nat) (nit : Nat) (nsh : Nat) (nsf : Nat) (nss : Nat) (nrc : Nat) (mtraced : Int32) (mdealer : Int32) (mnumber : Int32) (mwhose : Int32) (msize : Int32) (misParted : Int32) (fnw : Nat → Int32) (ftr : Nat → Int32) (fbe : Nat → Int32) : Prop := MV l G yX12_go cX12_go 9 ((mn + 1) + 2) 0 0 [.ref h0, .int (nI k9), .int (nI jl), .int ov, .int cd, .int co] [(h0, oX12 nw nk mhasKept nt mtaped nr mrowMany mroundOf mroundFrom mouts nm mfromHour mtoHour ns mfrom mto msort misFault mdeep mcoded mlines nl nc nF np ntr nb bc nso nsi nit nsh nsf nss nrc mtraced mdealer mnumber mwhose msize misParted), (nw, iA G 1662 fnw), (ntr, iA G 7 ftr), (nb, iA G 7 fbe)] (fun u : Int32 × (Nat → Int32) × (Nat → Int32) => B66 u.2.1 u.2.2) (fun u : Int32 × (Nat → Int32) × (Nat → Int32) => [(h0, oX12 nw nk mhasKept nt mtaped nr mrowMany mroundOf mroundFrom mouts nm mfromHour mtoHour ns mfrom mto msort misFault mdeep mcoded mlines nl nc nF np ntr nb u.1 nso nsi nit nsh nsf nss nrc mtraced mdealer mnumber mwhose msize misParted), (nw, iA G 1662 fnw), (ntr, iA G 7 u.2.1), (nb, iA G 7 u.2.2)])
set_option maxHeartbeats 4000000 in
set_option maxRecDepth 100000 in
theorem m_go_step (l : Launch) (G : GG) (mn : Nat) (h0 : Nat) (k9 : Nat) (jl : Nat) (ov : Int32) (cd : Int32) (co : Int32) (nw : Nat) (nk : Nat) (mhasKept : Int32) (nt : Nat) (mtaped : Int32) (nr : Nat) (mrowMany : Int32) (mroundOf : Int32) (mroundFrom : Int32) (mouts : Int32) (nm : Nat) (mfromHour : Int32) (mtoHour : Int32) (ns : Nat) (mfrom : Int32) (mto : Int32) (msort : Int32) (misFault : Int32) (mdeep : Int32) (mcoded : Int32) (mlines : Int32) (nl : Nat) (nc : Nat) (nF : Nat) (np : Nat) (ntr : Nat) (nb : Nat) (bc : Int32) (nso : Nat) (nsi : Nat) (nit : Nat) (nsh : Nat) (nsf : Nat) (nss : Nat) (nrc : Nat) (mtraced : Int32) (mdealer : Int32) (mnumber : Int32) (mwhose : Int32) (msize : Int32) (misParted : Int32) (fnw : Nat → Int32) (ftr : Nat → Int32) (fbe : Nat → Int32) (hjl : jl < 128) (hpc : pcnt jl ≤ mn + 1) (hk9 : k9 + (mn + 1) ≤ 7) (hB6 : B66 ftr fbe) (ihG : ∀ (h0 : Nat) (k9 : Nat) (jl : Nat) (ov : Int32) (cd : Int32) (co : Int32) (nw : Nat) (nk : Nat) (mhasKept : Int32) (nt : Nat) (mtaped : Int32) (nr : Nat) (mrowMany : Int32) (mroundOf : Int32) (mroundFrom : Int32) (mouts : Int32) (nm : Nat) (mfromHour : Int32) (mtoHour : Int32) (ns : Nat) (mfrom : Int32) (mto : Int32) (msort : Int32) (misFault : Int32) (mdeep : Int32) (mcoded : Int32) (mlines : Int32) (nl : Nat) (nc : Nat) (nF : Nat) (np : Nat) (ntr : Nat) (nb : Nat) (bc : Int32) (nso : Nat) (nsi : Nat) (nit : Nat) (nsh : Nat) (nsf : Nat) (nss : Nat) (nrc : Nat) (mtraced : Int32) (mdealer : Int32) (mnumber : Int32) (mwhose : Int32) (msize : Int32) (misParted : Int32) (fnw : Nat → Int32) (ftr : Nat → Int32) (fbe : Nat → Int32) (hjl : jl < 128) (hpc : pcnt jl ≤ mn) (hk9 : k9 + (mn) ≤ 7) (hB6 : B66 ftr fbe), MV l G yX12_go cX12_go 9 (mn + 2) 0 0 [.ref h0, .int (nI k9), .int (nI jl), .int ov, .int cd, .int co] [(h0, oX12 nw nk mhasKept nt mtaped nr mrowMany mroundOf mroundFrom mouts nm mfromHour mtoHour ns mfrom mto msort misFault mdeep mcoded mlines nl nc nF np ntr nb bc nso nsi nit nsh nsf nss nrc mtraced mdealer mnumber mwhose msize misParted), (nw, iA G 1662 fnw), (ntr, iA G 7 ftr), (nb, iA G 7 fbe)] (fun u : Int32 × (Nat → Int32) × (Nat → Int32) => B66 u.2.1 u.2.2) (fun u : Int32 × (Nat → Int32) × (Nat → Int32) => [(h0, oX12 nw nk mhasKept nt mtaped nr mrowMany mroundOf mroundFrom mouts nm mfromHour mtoHour ns mfrom mto msort misFault mdeep mcoded mlines nl nc nF np ntr nb u.1 nso nsi nit nsh nsf nss nrc mtraced mdealer mnumber mwhose msize misParted), (nw, iA G 1662 fnw), (ntr, iA G 7 u.2.1), (nb, iA G 7 u.2.2)])) : K_m_go_step l G mn h0 k9 jl ov cd co nw nk mhasKept nt mtaped nr mrowMany mroundOf mroundFrom mouts nm mfromHour mtoHour ns mfrom mto msort misFault mdeep mcoded mlines nl nc nF np ntr nb bc nso nsi nit nsh nsf nss nrc mtraced mdealer mnumber mwhose msize misParted fnw ftr fbe := by
  refine MV.start (by decide +kernel) (Nat.le_of_ble_eq_true rfl) ?_
  intro p e s m below meth c A ls hC hK hP hD hS hA hl
  refine absQ (fun Q0 hQ0 => ?_)
  have hl : lv_has ls 9 [(0, .ref h0), (1, .int (nI k9)), (2, .int (nI jl)), (3, .int ov), (4, .int cd), (5, .int co)] := hl
  refine Kan8 hC (fun hx hb hr hml hB hown hlocks hnm => ?_)
  refine lv_iload_n hx hb gX12_go_0.1 rfl (lv_at2 hl) ?_
  refine lv_if_ne (tgt := 56) hx hb gX12_go_0.2.1 (by decide) (fun c_1_6183 => ?_) (fun c_1_6183 => ?_)
  · refine lv_iconst (v := 0) hx hb gX12_go_2.2.2.2.2.2.2.2.2.1 (by decide) ?_
    refine lv_istore (lv' := [(6, .int 0), (0, .ref h0), (1, .int (nI k9)), (2, .int (nI jl)), (3, .int ov), (4, .int cd), (5, .int co)]) hx hb gX12_go_2.2.2.2.2.2.2.2.2.2 hl (by decide) rfl (fun ls hl => ?_)
    have keyQ : ∀ (nQ kQ : Nat) (vbc : Int32) (vT : Nat → Int32) (vB : Nat → Int32) (H : Heap) (locs : List Loc) (ls : Array Slot), kQ + nQ = 7 → (B66 vT vB) → va_PD G A [(h0, oX12 nw nk mhasKept nt mtaped nr mrowMany mroundOf mroundFrom mouts nm mfromHour mtoHour ns mfrom mto msort misFault mdeep mcoded mlines nl nc nF np ntr nb vbc nso nsi nit nsh nsf nss nrc mtraced mdealer mnumber mwhose msize misParted), (nw, iA G 1662 fnw), (ntr, iA G 7 vT), (nb, iA G 7 vB)] H → va_S A s.heap H locs → lv_has ls 9 [(6, .int (nI kQ)), (0, .ref h0), (1, .int (nI k9)), (2, .int (nI jl)), (3, .int ov), (4, .int cd), (5, .int co)] → W p l e (RM ((mn + 1) + 2) 0 0) s m ([.ref h0, .int (nI k9), .int (nI jl), .int ov, .int cd, .int co] : List Value).toArray below meth c H locs 0 0 Q0 (F0 m 59 ls []) := by
      intro nQ
      induction nQ with
      | zero =>
        intro kQ vbc vT vB H locs ls hkQ hvT hPD hS hl
        refine Kan2 hPD (fun hP hD => ?_)
        obtain rfl : 7 = kQ := by omega
        have hl : lv_has ls 9 [(6, .int 7), (0, .ref h0), (1, .int (nI k9)), (2, .int (nI jl)), (3, .int ov), (4, .int cd), (5, .int co)] := hl
        refine lv_iload hx hb gX12_go_3.1 (lv_at0 hl) ?_
        refine lv_bipush (v := 7) hx hb gX12_go_3.2.1 (by decide) ?_
        refine lv_icmp_ge (tgt := 159) hx hb gX12_go_3.2.2.1 (by decide) (fun _ => ?_) (fun c9 => absurd (by decide) c9)
        refine toQ hQ0 ?_
        exact RV hC hP hD hS [0, 1, 2, 3] (vbc, vT, vB) rfl rfl (by decide) (by assumption) gX12_go_9
      | succ nQ ihQ =>
        intro kQ vbc vT vB H locs ls hkQ hvT hPD hS hl
        refine Kan2 hPD (fun hP hD => ?_)
        refine lv_iload hx hb gX12_go_3.1 (lv_at0 hl) ?_
        refine lv_bipush (v := 7) hx hb gX12_go_3.2.1 (by decide) ?_
        refine lv_icmp_ge (tgt := 159) hx hb gX12_go_3.2.2.1 (by decide) (fun c9 => absurd c9 (nI_ge (a := kQ) (b := 7) (by omega) (by omega))) (fun _ => ?_)
        refine lv_iload_n hx hb gX12_go_3.2.2.2.1 rfl (lv_at3 hl) ?_
        refine lv_iload hx hb gX12_go_3.2.2.2.2.1 (lv_at0 hl) ?_
        refine pS hC hK hl (m_has l G (nI jl) (nI kQ)) si_X12_99 rfl rfl (Nat.le_of_ble_eq_true rfl) ⟨by simp only [RM]; omega, by simp only [RM]; omega⟩ ⟨by first | exact Nat.le_of_ble_eq_true rfl | exact Nat.zero_le _, by first | exact Nat.le_of_ble_eq_true rfl | exact Nat.zero_le _⟩ gX12_go_3.2.2.2.2.2.1 (Kors (Keqa fun a6185 => ?_) (Keqa fun a6185 => ?_))
        · refine lv_if_eq (tgt := 153) hx hb gX12_go_3.2.2.2.2.2.2.1 (by decide) (fun c9 => absurd c9 (by decide)) (fun _ => ?_)
          refine lv_iload_n hx hb gX12_go_3.2.2.2.2.2.2.2.1 rfl (lv_at4 hl) ?_
          refine lv_aload_n hx hb gX12_go_3.2.2.2.2.2.2.2.2.1 rfl (lv_at1 hl) ?_
          refine gf_X12_9 hC rfl hK hP 0 rfl rfl gX12_go_3.2.2.2.2.2.2.2.2.2 ?_
          refine lv_sipush (v := 1648) hx hb gX12_go_4.1 (by decide) ?_
          refine lv_iconst (v := 2) hx hb gX12_go_4.2.1 (by decide) ?_
          refine lv_iload hx hb gX12_go_4.2.2.1 (lv_at0 hl) ?_
          refine lv_imul hx hb gX12_go_4.2.2.2.1 ?_
          refine eqi (x1 := nI (2 * kQ)) (nI_mul 2 kQ) ?_
          refine lv_iadd hx hb gX12_go_4.2.2.2.2.1 ?_
          refine eqi (x1 := nI (1648 + 2 * kQ)) (nI_add 1648 (2 * kQ)) ?_
          refine aldN hC hK hP 1 rfl (k := (1648 + 2 * kQ)) (by omega) (Nat.le_of_ble_eq_true rfl) (v := fnw (1648 + 2 * kQ)) rfl gX12_go_4.2.2.2.2.2.1 ?_
          refine lv_topi (fun x6186 ex6186 => ?_)
          refine lv_iadd hx hb gX12_go_4.2.2.2.2.2.2.1 ?_
          refine lv_istore (lv' := [(7, .int (ov + x6186)), (6, .int (nI kQ)), (0, .ref h0), (1, .int (nI k9)), (2, .int (nI jl)), (3, .int ov), (4, .int cd), (5, .int co)]) hx hb gX12_go_4.2.2.2.2.2.2.2.1 hl (by decide) rfl (fun ls hl => ?_)
          refine lv_aload_n hx hb gX12_go_4.2.2.2.2.2.2.2.2.1 rfl (lv_at2 hl) ?_
          refine gf_X12_9 hC rfl hK hP 0 rfl rfl gX12_go_4.2.2.2.2.2.2.2.2.2 ?_
          refine lv_sipush (v := 1648) hx hb gX12_go_5.1 (by decide) ?_
          refine lv_iconst (v := 2) hx hb gX12_go_5.2.1 (by decide) ?_
          refine lv_iload hx hb gX12_go_5.2.2.1 (lv_at1 hl) ?_
          refine lv_imul hx hb gX12_go_5.2.2.2.1 ?_
          refine eqi (x1 := nI (2 * kQ)) (nI_mul 2 kQ) ?_
          refine lv_iadd hx hb gX12_go_5.2.2.2.2.1 ?_
          refine eqi (x1 := nI (1648 + 2 * kQ)) (nI_add 1648 (2 * kQ)) ?_
          refine lv_iconst (v := 1) hx hb gX12_go_5.2.2.2.2.2.1 (by decide) ?_
          refine lv_iadd hx hb gX12_go_5.2.2.2.2.2.2.1 ?_
          refine eqi (x1 := nI (1648 + 2 * kQ + 1)) (nI_add (1648 + 2 * kQ) 1) ?_
          refine aldN hC hK hP 1 rfl (k := (1648 + 2 * kQ + 1)) (by omega) (Nat.le_of_ble_eq_true rfl) (v := fnw (1648 + 2 * kQ + 1)) rfl gX12_go_5.2.2.2.2.2.2.2.1 ?_
          refine lv_topi (fun x6187 ex6187 => ?_)
          refine lv_istore (lv' := [(8, .int x6187), (7, .int (ov + x6186)), (6, .int (nI kQ)), (0, .ref h0), (1, .int (nI k9)), (2, .int (nI jl)), (3, .int ov), (4, .int cd), (5, .int co)]) hx hb gX12_go_5.2.2.2.2.2.2.2.2.1 hl (by decide) rfl (fun ls hl => ?_)
          refine lv_aload_n hx hb gX12_go_5.2.2.2.2.2.2.2.2.2 rfl (lv_at3 hl) ?_
          refine gf_X12_57 hC rfl hK hP 0 rfl rfl gX12_go_6.1 ?_
          refine lv_iload_n hx hb gX12_go_6.2.1 rfl (lv_at4 hl) ?_
          refine lv_iload hx hb gX12_go_6.2.2.1 (lv_at2 hl) ?_
          refine astN hC hK hP hD hS 2 (ws' := [(h0, oX12 nw nk mhasKept nt mtaped nr mrowMany mroundOf mroundFrom mouts nm mfromHour mtoHour ns mfrom mto msort misFault mdeep mcoded mlines nl nc nF np ntr nb vbc nso nsi nit nsh nsf nss nrc mtraced mdealer mnumber mwhose msize misParted), (nw, iA G 1662 fnw), (ntr, iA G 7 (upd vT k9 (nI kQ))), (nb, iA G 7 vB)]) rfl (k := k9) (by omega) (Nat.le_of_ble_eq_true rfl) (rfl) gX12_go_6.2.2.2.1 (fun H locs hP hD hS => ?_)
          have hB3 : B66 (upd vT k9 (nI kQ)) vB := B66.tr hvT (by omega)
          refine lv_aload_n hx hb gX12_go_6.2.2.2.2.1 rfl (lv_at3 hl) ?_
          refine lv_iload_n hx hb gX12_go_6.2.2.2.2.2.1 rfl (lv_at4 hl) ?_
          refine lv_iconst (v := 1) hx hb gX12_go_6.2.2.2.2.2.2.1 (by decide) ?_
          refine lv_iadd hx hb gX12_go_6.2.2.2.2.2.2.2.1 ?_
          refine eqi (x1 := nI (k9 + 1)) (nI_add k9 1) ?_
          refine lv_iload_n hx hb gX12_go_6.2.2.2.2.2.2.2.2.1 rfl (lv_at5 hl) ?_
          refine lv_iconst (v := 1) hx hb gX12_go_6.2.2.2.2.2.2.2.2.2 (by decide) ?_
          refine lv_iload hx hb gX12_go_7.1 (lv_at2 hl) ?_
          refine lv_ishl hx hb gX12_go_7.2.1 ?_
          refine lv_ixor hx hb gX12_go_7.2.2.1 ?_
          obtain ⟨jx, hjx, ejx, hpx⟩ := go_x hjl (by omega) a6185
          refine eqi (x1 := nI jx) (ejx) ?_
          refine lv_iload hx hb gX12_go_7.2.2.2.1 (lv_at1 hl) ?_
          refine lv_iload hx hb gX12_go_7.2.2.2.2.1 (lv_at7 hl) ?_
          refine lv_iload hx hb gX12_go_7.2.2.2.2.2.1 (lv_at0 hl) ?_
          refine lv_ior hx hb gX12_go_7.2.2.2.2.2.2.1 ?_
          refine lv_iload hx hb gX12_go_7.2.2.2.2.2.2.2.1 (lv_at8 hl) ?_
          refine lv_iload hx hb gX12_go_7.2.2.2.2.2.2.2.2.1 (lv_at1 hl) ?_
          refine lv_iload hx hb gX12_go_7.2.2.2.2.2.2.2.2.2 (lv_at0 hl) ?_
          refine lv_iload hx hb gX12_go_8.1 (lv_at7 hl) ?_
          refine lv_iconst (v := (-1)) hx hb gX12_go_8.2.1 (by decide) ?_
          refine lv_ixor hx hb gX12_go_8.2.2.1 ?_
          refine lv_iand hx hb gX12_go_8.2.2.2.1 ?_
          refine pS hC hK hl (m_bits l G (x6187 &&& (cd ^^^ (-1)))) si_X12_110 rfl rfl (Nat.le_of_ble_eq_true rfl) ⟨by simp only [RM]; omega, by simp only [RM]; omega⟩ ⟨by first | exact Nat.le_of_ble_eq_true rfl | exact Nat.zero_le _, by first | exact Nat.le_of_ble_eq_true rfl | exact Nat.zero_le _⟩ gX12_go_8.2.2.2.2.1 (fun r6188 hr6188 => ?_)
          refine lv_imul hx hb gX12_go_8.2.2.2.2.2.1 ?_
          refine lv_iadd hx hb gX12_go_8.2.2.2.2.2.2.1 ?_
          refine vV (wr := []) hC hK hl hP hD hS hA (ihG h0 (k9 + 1) jx (ov + x6186) (cd ||| x6187) (co + ((ov + x6186) * r6188)) nw nk mhasKept nt mtaped nr mrowMany mroundOf mroundFrom mouts nm mfromHour mtoHour ns mfrom mto msort misFault mdeep mcoded mlines nl nc nF np ntr nb vbc nso nsi nit nsh nsf nss nrc mtraced mdealer mnumber mwhose msize misParted fnw (upd vT k9 (nI kQ)) vB (by omega) (by omega) (by omega) (hB3)) si_X12_323 [0, 1, 2, 3] [] sm_0_1_2_3 fm_0_1_2_3 nd_0_1_2_3 rfl rfl (by decide) rfl rfl rfl rfl rfl (Nat.le_of_ble_eq_true rfl) ⟨by simp only [RM]; omega, by simp only [RM]; omega⟩ ⟨Nat.le_of_ble_eq_true rfl, Nat.le_of_ble_eq_true rfl⟩ gX12_go_8.2.2.2.2.2.2.2.1 (Ktu3 fun bc16191 gtr6192 gbe6193 => ?_)
          intro H locs hr6189 hP hD hS
          try dsimp only at hr6189
          refine Kpdr (ws := [(h0, oX12 nw nk mhasKept nt mtaped nr mrowMany mroundOf mroundFrom mouts nm mfromHour mtoHour ns mfrom mto msort misFault mdeep mcoded mlines nl nc nF np ntr nb bc16191 nso nsi nit nsh nsf nss nrc mtraced mdealer mnumber mwhose msize misParted), (nw, iA G 1662 fnw), (ntr, iA G 7 gtr6192), (nb, iA G 7 gbe6193)]) hP hD (fun hP hD => ?_)
          have w6194 := hr6189
          refine lv_iinc (v := nI (kQ + 1)) (lv' := [(6, .int (nI (kQ + 1))), (8, .int x6187), (7, .int (ov + x6186)), (0, .ref h0), (1, .int (nI k9)), (2, .int (nI jl)), (3, .int ov), (4, .int cd), (5, .int co)]) hx hb gX12_go_8.2.2.2.2.2.2.2.2.1 hl (k := 2) rfl (nI_1 _) (by decide) rfl (fun ls hl => ?_)
          refine lv_goto (tgt := 59) hx hb gX12_go_8.2.2.2.2.2.2.2.2.2 (by decide) ?_
          exact ihQ (kQ + 1) bc16191 gtr6192 gbe6193 _ _ _ (by omega) (by first | assumption | exact Or.inl rfl | exact Or.inr rfl) (And.intro hP hD) hS (lv_sub hl [0, 3, 4, 5, 6, 7, 8] rfl)
        · refine lv_if_eq (tgt := 153) hx hb gX12_go_3.2.2.2.2.2.2.1 (by decide) (fun _ => ?_) (fun c9 => absurd (by decide) c9)
          refine lv_iinc (v := nI (kQ + 1)) (lv' := [(6, .int (nI (kQ + 1))), (0, .ref h0), (1, .int (nI k9)), (2, .int (nI jl)), (3, .int ov), (4, .int cd), (5, .int co)]) hx hb gX12_go_8.2.2.2.2.2.2.2.2.1 hl (k := 0) rfl (nI_1 _) (by decide) rfl (fun ls hl => ?_)
          refine lv_goto (tgt := 59) hx hb gX12_go_8.2.2.2.2.2.2.2.2.2 (by decide) ?_
          exact ihQ (kQ + 1) vbc vT vB _ _ _ (by omega) (by first | assumption | exact Or.inl rfl | exact Or.inr rfl) (And.intro hP hD) hS (lv_sub hl [0, 1, 2, 3, 4, 5, 6] rfl)
    exact keyQ 7 0 bc ftr fbe _ _ _ (by omega) (by first | assumption | exact Or.inl rfl | exact Or.inr rfl) (And.intro hP hD) hS (lv_sub hl [0, 1, 2, 3, 4, 5, 6] rfl)
  · refine lv_aload_n hx hb gX12_go_0.2.2.1 rfl (lv_at0 hl) ?_
    refine gf_X12_320 hC rfl hK hP 0 rfl rfl gX12_go_0.2.2.2.1 ?_
    refine lv_if_lt (tgt := 20) hx hb gX12_go_0.2.2.2.2.1 (by decide) (fun c_8_6195 => ?_) (fun c_8_6195 => ?_)
    · refine lv_aload_n hx hb gX12_go_0.2.2.2.2.2.2.2.2.2 rfl (lv_at0 hl) ?_
      refine lv_iload hx hb gX12_go_1.1 (lv_at5 hl) ?_
      refine pf_X12_320 hC rfl hK hP hD hS 0 (ws' := [(h0, oX12 nw nk mhasKept nt mtaped nr mrowMany mroundOf mroundFrom mouts nm mfromHour mtoHour ns mfrom mto msort misFault mdeep mcoded mlines nl nc nF np ntr nb co nso nsi nit nsh nsf nss nrc mtraced mdealer mnumber mwhose msize misParted), (nw, iA G 1662 fnw), (ntr, iA G 7 ftr), (nb, iA G 7 fbe)]) rfl (Nat.le_of_ble_eq_true rfl) rfl rfl rfl gX12_go_1.2.1 (fun H locs hP hD hS => ?_)
      refine lv_iconst (v := 0) hx hb gX12_go_1.2.2.1 (by decide) ?_
      refine lv_istore (lv' := [(6, .int 0), (0, .ref h0), (1, .int (nI k9)), (2, .int (nI jl)), (3, .int ov), (4, .int cd), (5, .int co)]) hx hb gX12_go_1.2.2.2.1 hl (by decide) rfl (fun ls hl => ?_)
      have keyP : ∀ (nP kP : Nat) (vB : Nat → Int32) (H : Heap) (locs : List Loc) (ls : Array Slot), kP + nP = k9 → (B66 ftr vB) → va_PD G A [(h0, oX12 nw nk mhasKept nt mtaped nr mrowMany mroundOf mroundFrom mouts nm mfromHour mtoHour ns mfrom mto msort misFault mdeep mcoded mlines nl nc nF np ntr nb co nso nsi nit nsh nsf nss nrc mtraced mdealer mnumber mwhose msize misParted), (nw, iA G 1662 fnw), (ntr, iA G 7 ftr), (nb, iA G 7 vB)] H → va_S A s.heap H locs → lv_has ls 9 [(6, .int (nI kP)), (0, .ref h0), (1, .int (nI k9)), (2, .int (nI jl)), (3, .int ov), (4, .int cd), (5, .int co)] → W p l e (RM ((mn + 1) + 2) 0 0) s m ([.ref h0, .int (nI k9), .int (nI jl), .int ov, .int cd, .int co] : List Value).toArray below meth c H locs 0 0 Q0 (F0 m 29 ls []) := by
        intro nP
        induction nP with
        | zero =>
          intro kP vB H locs ls hkP hvB hPD hS hl
          refine Kan2 hPD (fun hP hD => ?_)
          obtain rfl : k9 = kP := by omega
          have hl : lv_has ls 9 [(6, .int (nI k9)), (0, .ref h0), (1, .int (nI k9)), (2, .int (nI jl)), (3, .int ov), (4, .int cd), (5, .int co)] := hl
          refine lv_iload hx hb gX12_go_1.2.2.2.2.1 (lv_at0 hl) ?_
          refine lv_iload_n hx hb gX12_go_1.2.2.2.2.2.1 rfl (lv_at2 hl) ?_
          refine lv_icmp_ge (tgt := 55) hx hb gX12_go_1.2.2.2.2.2.2.1 (by decide) (fun _ => ?_) (fun c9 => absurd (Int32.le_refl _) c9)
          refine toQ hQ0 ?_
          exact RV hC hP hD hS [0, 1, 2, 3] (co, ftr, vB) rfl rfl (by decide) (by assumption) gX12_go_2.2.2.2.2.2.2.2.1
        | succ nP ihP =>
          intro kP vB H locs ls hkP hvB hPD hS hl
          refine Kan2 hPD (fun hP hD => ?_)
          refine lv_iload hx hb gX12_go_1.2.2.2.2.1 (lv_at0 hl) ?_
          refine lv_iload_n hx hb gX12_go_1.2.2.2.2.2.1 rfl (lv_at2 hl) ?_
          refine lv_icmp_ge (tgt := 55) hx hb gX12_go_1.2.2.2.2.2.2.1 (by decide) (fun c9 => absurd c9 (nI_ge (a := kP) (b := k9) (by omega) (by omega))) (fun _ => ?_)
          refine lv_aload_n hx hb gX12_go_1.2.2.2.2.2.2.2.1 rfl (lv_at1 hl) ?_
          refine gf_X12_60 hC rfl hK hP 0 rfl rfl gX12_go_1.2.2.2.2.2.2.2.2.1 ?_
          refine lv_iload hx hb gX12_go_1.2.2.2.2.2.2.2.2.2 (lv_at0 hl) ?_
          refine lv_aload_n hx hb gX12_go_2.1 rfl (lv_at1 hl) ?_
          refine gf_X12_57 hC rfl hK hP 0 rfl rfl gX12_go_2.2.1 ?_
          refine lv_iload hx hb gX12_go_2.2.2.1 (lv_at0 hl) ?_
          refine aldN hC hK hP 2 rfl (k := kP) (by omega) (Nat.le_of_ble_eq_true rfl) (v := ftr kP) rfl gX12_go_2.2.2.2.1 ?_
          refine lv_topi (fun x6196 ex6196 => ?_)
          refine astN hC hK hP hD hS 3 (ws' := [(h0, oX12 nw nk mhasKept nt mtaped nr mrowMany mroundOf mroundFrom mouts nm mfromHour mtoHour ns mfrom mto msort misFault mdeep mcoded mlines nl nc nF np ntr nb co nso nsi nit nsh nsf nss nrc mtraced mdealer mnumber mwhose msize misParted), (nw, iA G 1662 fnw), (ntr, iA G 7 ftr), (nb, iA G 7 (upd vB kP x6196))]) rfl (k := kP) (by omega) (Nat.le_of_ble_eq_true rfl) (rfl) gX12_go_2.2.2.2.2.1 (fun H locs hP hD hS => ?_)
          refine lv_iinc (v := nI (kP + 1)) (lv' := [(6, .int (nI (kP + 1))), (0, .ref h0), (1, .int (nI k9)), (2, .int (nI jl)), (3, .int ov), (4, .int cd), (5, .int co)]) hx hb gX12_go_2.2.2.2.2.2.1 hl (k := 0) rfl (nI_1 _) (by decide) rfl (fun ls hl => ?_)
          refine lv_goto (tgt := 29) hx hb gX12_go_2.2.2.2.2.2.2.1 (by decide) ?_
          exact ihP (kP + 1) (upd vB kP x6196) _ _ _ (by omega) (by first | assumption | exact Or.inl rfl | exact Or.inr rfl | exact B66.cp (by assumption) (by omega) (by assumption)) (And.intro hP hD) hS (lv_sub hl [0, 1, 2, 3, 4, 5, 6] rfl)
      exact keyP k9 0 fbe _ _ _ (by omega) (by first | assumption | exact Or.inl rfl | exact Or.inr rfl | exact B66.cp (by assumption) (by omega) (by assumption)) (And.intro hP hD) hS (lv_sub hl [0, 1, 2, 3, 4, 5, 6] rfl)
    · refine lv_iload hx hb gX12_go_0.2.2.2.2.2.1 (lv_at5 hl) ?_
      refine lv_aload_n hx hb gX12_go_0.2.2.2.2.2.2.1 rfl (lv_at0 hl) ?_
      refine gf_X12_320 hC rfl hK hP 0 rfl rfl gX12_go_0.2.2.2.2.2.2.2.1 ?_
      refine lv_icmp_ge (tgt := 55) hx hb gX12_go_0.2.2.2.2.2.2.2.2.1 (by decide) (fun c_17_6197 => ?_) (fun c_17_6197 => ?_)
      · refine toQ hQ0 ?_
        exact RV hC hP hD hS [0, 1, 2, 3] (bc, ftr, fbe) rfl rfl (by decide) (by assumption) gX12_go_2.2.2.2.2.2.2.2.1
      · refine lv_aload_n hx hb gX12_go_0.2.2.2.2.2.2.2.2.2 rfl (lv_at0 hl) ?_
        refine lv_iload hx hb gX12_go_1.1 (lv_at5 hl) ?_
        refine pf_X12_320 hC rfl hK hP hD hS 0 (ws' := [(h0, oX12 nw nk mhasKept nt mtaped nr mrowMany mroundOf mroundFrom mouts nm mfromHour mtoHour ns mfrom mto msort misFault mdeep mcoded mlines nl nc nF np ntr nb co nso nsi nit nsh nsf nss nrc mtraced mdealer mnumber mwhose msize misParted), (nw, iA G 1662 fnw), (ntr, iA G 7 ftr), (nb, iA G 7 fbe)]) rfl (Nat.le_of_ble_eq_true rfl) rfl rfl rfl gX12_go_1.2.1 (fun H locs hP hD hS => ?_)
        refine lv_iconst (v := 0) hx hb gX12_go_1.2.2.1 (by decide) ?_
        refine lv_istore (lv' := [(6, .int 0), (0, .ref h0), (1, .int (nI k9)), (2, .int (nI jl)), (3, .int ov), (4, .int cd), (5, .int co)]) hx hb gX12_go_1.2.2.2.1 hl (by decide) rfl (fun ls hl => ?_)
        have keyP : ∀ (nP kP : Nat) (vB : Nat → Int32) (H : Heap) (locs : List Loc) (ls : Array Slot), kP + nP = k9 → (B66 ftr vB) → va_PD G A [(h0, oX12 nw nk mhasKept nt mtaped nr mrowMany mroundOf mroundFrom mouts nm mfromHour mtoHour ns mfrom mto msort misFault mdeep mcoded mlines nl nc nF np ntr nb co nso nsi nit nsh nsf nss nrc mtraced mdealer mnumber mwhose msize misParted), (nw, iA G 1662 fnw), (ntr, iA G 7 ftr), (nb, iA G 7 vB)] H → va_S A s.heap H locs → lv_has ls 9 [(6, .int (nI kP)), (0, .ref h0), (1, .int (nI k9)), (2, .int (nI jl)), (3, .int ov), (4, .int cd), (5, .int co)] → W p l e (RM ((mn + 1) + 2) 0 0) s m ([.ref h0, .int (nI k9), .int (nI jl), .int ov, .int cd, .int co] : List Value).toArray below meth c H locs 0 0 Q0 (F0 m 29 ls []) := by
          intro nP
          induction nP with
          | zero =>
            intro kP vB H locs ls hkP hvB hPD hS hl
            refine Kan2 hPD (fun hP hD => ?_)
            obtain rfl : k9 = kP := by omega
            have hl : lv_has ls 9 [(6, .int (nI k9)), (0, .ref h0), (1, .int (nI k9)), (2, .int (nI jl)), (3, .int ov), (4, .int cd), (5, .int co)] := hl
            refine lv_iload hx hb gX12_go_1.2.2.2.2.1 (lv_at0 hl) ?_
            refine lv_iload_n hx hb gX12_go_1.2.2.2.2.2.1 rfl (lv_at2 hl) ?_
            refine lv_icmp_ge (tgt := 55) hx hb gX12_go_1.2.2.2.2.2.2.1 (by decide) (fun _ => ?_) (fun c9 => absurd (Int32.le_refl _) c9)
            refine toQ hQ0 ?_
            exact RV hC hP hD hS [0, 1, 2, 3] (co, ftr, vB) rfl rfl (by decide) (by assumption) gX12_go_2.2.2.2.2.2.2.2.1
          | succ nP ihP =>
            intro kP vB H locs ls hkP hvB hPD hS hl
            refine Kan2 hPD (fun hP hD => ?_)
            refine lv_iload hx hb gX12_go_1.2.2.2.2.1 (lv_at0 hl) ?_
            refine lv_iload_n hx hb gX12_go_1.2.2.2.2.2.1 rfl (lv_at2 hl) ?_
            refine lv_icmp_ge (tgt := 55) hx hb gX12_go_1.2.2.2.2.2.2.1 (by decide) (fun c9 => absurd c9 (nI_ge (a := kP) (b := k9) (by omega) (by omega))) (fun _ => ?_)
            refine lv_aload_n hx hb gX12_go_1.2.2.2.2.2.2.2.1 rfl (lv_at1 hl) ?_
            refine gf_X12_60 hC rfl hK hP 0 rfl rfl gX12_go_1.2.2.2.2.2.2.2.2.1 ?_
            refine lv_iload hx hb gX12_go_1.2.2.2.2.2.2.2.2.2 (lv_at0 hl) ?_
            refine lv_aload_n hx hb gX12_go_2.1 rfl (lv_at1 hl) ?_
            refine gf_X12_57 hC rfl hK hP 0 rfl rfl gX12_go_2.2.1 ?_
            refine lv_iload hx hb gX12_go_2.2.2.1 (lv_at0 hl) ?_
            refine aldN hC hK hP 2 rfl (k := kP) (by omega) (Nat.le_of_ble_eq_true rfl) (v := ftr kP) rfl gX12_go_2.2.2.2.1 ?_
            refine lv_topi (fun x6198 ex6198 => ?_)
            refine astN hC hK hP hD hS 3 (ws' := [(h0, oX12 nw nk mhasKept nt mtaped nr mrowMany mroundOf mroundFrom mouts nm mfromHour mtoHour ns mfrom mto msort misFault mdeep mcoded mlines nl nc nF np ntr nb co nso nsi nit nsh nsf nss nrc mtraced mdealer mnumber mwhose msize misParted), (nw, iA G 1662 fnw), (ntr, iA G 7 ftr), (nb, iA G 7 (upd vB kP x6198))]) rfl (k := kP) (by omega) (Nat.le_of_ble_eq_true rfl) (rfl) gX12_go_2.2.2.2.2.1 (fun H locs hP hD hS => ?_)
            refine lv_iinc (v := nI (kP + 1)) (lv' := [(6, .int (nI (kP + 1))), (0, .ref h0), (1, .int (nI k9)), (2, .int (nI jl)), (3, .int ov), (4, .int cd), (5, .int co)]) hx hb gX12_go_2.2.2.2.2.2.1 hl (k := 0) rfl (nI_1 _) (by decide) rfl (fun ls hl => ?_)
            refine lv_goto (tgt := 29) hx hb gX12_go_2.2.2.2.2.2.2.1 (by decide) ?_
            exact ihP (kP + 1) (upd vB kP x6198) _ _ _ (by omega) (by first | assumption | exact Or.inl rfl | exact Or.inr rfl | exact B66.cp (by assumption) (by omega) (by assumption)) (And.intro hP hD) hS (lv_sub hl [0, 1, 2, 3, 4, 5, 6] rfl)
        exact keyP k9 0 fbe _ _ _ (by omega) (by first | assumption | exact Or.inl rfl | exact Or.inr rfl | exact B66.cp (by assumption) (by omega) (by assumption)) (And.intro hP hD) hS (lv_sub hl [0, 1, 2, 3, 4, 5, 6] rfl)
def K_m_go_0 (l : Launch) (G : GG) (h0 : Nat) (k9 : Nat) (jl : Nat) (ov : Int32) (cd : Int32) (co : Int32) (nw : Nat) (nk : Nat) (mhasKept : Int32) (nt : Nat) (mtaped : Int32) (nr : Nat) (mrowMany : Int32) (mroundOf : Int32) (mroundFrom : Int32) (mouts : Int32) (nm : Nat) (mfromHour : Int32) (mtoHour : Int32) (ns : Nat) (mfrom : Int32) (mto : Int32) (msort : Int32) (misFault : Int32) (mdeep : Int32) (mcoded : Int32) (mlines : Int32) (nl : Nat) (nc : Nat) (nF : Nat) (np : Nat) (ntr : Nat) (nb : Nat) (bc : Int32) (nso : Nat) (nsi : Nat) (nit : Nat) (nsh : Nat) (nsf : Nat) (nss : Nat) (nrc : Nat) (mtraced : Int32) (mdealer : Int32) (mnumber : Int32) (mwhose : Int32) (msize : Int32) (misParted : Int32) (fnw : Nat → Int32) (ftr : Nat → Int32) (fbe : Nat → Int32) : Prop := MV l G yX12_go cX12_go 9 (0 + 2) 0 0 [.ref h0, .int (nI k9), .int (nI jl), .int ov, .int cd, .int co] [(h0, oX12 nw nk mhasKept nt mtaped nr mrowMany mroundOf mroundFrom mouts nm mfromHour mtoHour ns mfrom mto msort misFault mdeep mcoded mlines nl nc nF np ntr nb bc nso nsi nit nsh nsf nss nrc mtraced mdealer mnumber mwhose msize misParted), (nw, iA G 1662 fnw), (ntr, iA G 7 ftr), (nb, iA G 7 fbe)] (fun u : Int32 × (Nat → Int32) × (Nat → Int32) => B66 u.2.1 u.2.2) (fun u : Int32 × (Nat → Int32) × (Nat → Int32) => [(h0, oX12 nw nk mhasKept nt mtaped nr mrowMany mroundOf mroundFrom mouts nm mfromHour mtoHour ns mfrom mto msort misFault mdeep mcoded mlines nl nc nF np ntr nb u.1 nso nsi nit nsh nsf nss nrc mtraced mdealer mnumber mwhose msize misParted), (nw, iA G 1662 fnw), (ntr, iA G 7 u.2.1), (nb, iA G 7 u.2.2)])
set_option maxHeartbeats 4000000 in
set_option maxRecDepth 100000 in
theorem m_go_0 (l : Launch) (G : GG) (h0 : Nat) (k9 : Nat) (jl : Nat) (ov : Int32) (cd : Int32) (co : Int32) (nw : Nat) (nk : Nat) (mhasKept : Int32) (nt : Nat) (mtaped : Int32) (nr : Nat) (mrowMany : Int32) (mroundOf : Int32) (mroundFrom : Int32) (mouts : Int32) (nm : Nat) (mfromHour : Int32) (mtoHour : Int32) (ns : Nat) (mfrom : Int32) (mto : Int32) (msort : Int32) (misFault : Int32) (mdeep : Int32) (mcoded : Int32) (mlines : Int32) (nl : Nat) (nc : Nat) (nF : Nat) (np : Nat) (ntr : Nat) (nb : Nat) (bc : Int32) (nso : Nat) (nsi : Nat) (nit : Nat) (nsh : Nat) (nsf : Nat) (nss : Nat) (nrc : Nat) (mtraced : Int32) (mdealer : Int32) (mnumber : Int32) (mwhose : Int32) (msize : Int32) (misParted : Int32) (fnw : Nat → Int32) (ftr : Nat → Int32) (fbe : Nat → Int32) (hjl : jl < 128) (hpc : pcnt jl ≤ 0) (hk9 : k9 + (0) ≤ 7) (hB6 : B66 ftr fbe) : K_m_go_0 l G h0 k9 jl ov cd co nw nk mhasKept nt mtaped nr mrowMany mroundOf mroundFrom mouts nm mfromHour mtoHour ns mfrom mto msort misFault mdeep mcoded mlines nl nc nF np ntr nb bc nso nsi nit nsh nsf nss nrc mtraced mdealer mnumber mwhose msize misParted fnw ftr fbe := by
  refine MV.start (by decide +kernel) (Nat.le_of_ble_eq_true rfl) ?_
  intro p e s m below meth c A ls hC hK hP hD hS hA hl
  refine absQ (fun Q0 hQ0 => ?_)
  have hl : lv_has ls 9 [(0, .ref h0), (1, .int (nI k9)), (2, .int (nI jl)), (3, .int ov), (4, .int cd), (5, .int co)] := hl
  refine Kan8 hC (fun hx hb hr hml hB hown hlocks hnm => ?_)
  refine lv_iload_n hx hb gX12_go_0.1 rfl (lv_at2 hl) ?_
  refine lv_if_ne (tgt := 56) hx hb gX12_go_0.2.1 (by decide) (fun c9 => absurd (congrArg nI (pcnt_0 hjl hpc)) c9) (fun _ => ?_)
  refine lv_aload_n hx hb gX12_go_0.2.2.1 rfl (lv_at0 hl) ?_
  refine gf_X12_320 hC rfl hK hP 0 rfl rfl gX12_go_0.2.2.2.1 ?_
  refine lv_if_lt (tgt := 20) hx hb gX12_go_0.2.2.2.2.1 (by decide) (fun c_8_6199 => ?_) (fun c_8_6199 => ?_)
  · refine lv_aload_n hx hb gX12_go_0.2.2.2.2.2.2.2.2.2 rfl (lv_at0 hl) ?_
    refine lv_iload hx hb gX12_go_1.1 (lv_at5 hl) ?_
    refine pf_X12_320 hC rfl hK hP hD hS 0 (ws' := [(h0, oX12 nw nk mhasKept nt mtaped nr mrowMany mroundOf mroundFrom mouts nm mfromHour mtoHour ns mfrom mto msort misFault mdeep mcoded mlines nl nc nF np ntr nb co nso nsi nit nsh nsf nss nrc mtraced mdealer mnumber mwhose msize misParted), (nw, iA G 1662 fnw), (ntr, iA G 7 ftr), (nb, iA G 7 fbe)]) rfl (Nat.le_of_ble_eq_true rfl) rfl rfl rfl gX12_go_1.2.1 (fun H locs hP hD hS => ?_)
    refine lv_iconst (v := 0) hx hb gX12_go_1.2.2.1 (by decide) ?_
    refine lv_istore (lv' := [(6, .int 0), (0, .ref h0), (1, .int (nI k9)), (2, .int (nI jl)), (3, .int ov), (4, .int cd), (5, .int co)]) hx hb gX12_go_1.2.2.2.1 hl (by decide) rfl (fun ls hl => ?_)
    have keyP : ∀ (nP kP : Nat) (vB : Nat → Int32) (H : Heap) (locs : List Loc) (ls : Array Slot), kP + nP = k9 → (B66 ftr vB) → va_PD G A [(h0, oX12 nw nk mhasKept nt mtaped nr mrowMany mroundOf mroundFrom mouts nm mfromHour mtoHour ns mfrom mto msort misFault mdeep mcoded mlines nl nc nF np ntr nb co nso nsi nit nsh nsf nss nrc mtraced mdealer mnumber mwhose msize misParted), (nw, iA G 1662 fnw), (ntr, iA G 7 ftr), (nb, iA G 7 vB)] H → va_S A s.heap H locs → lv_has ls 9 [(6, .int (nI kP)), (0, .ref h0), (1, .int (nI k9)), (2, .int (nI jl)), (3, .int ov), (4, .int cd), (5, .int co)] → W p l e (RM (0 + 2) 0 0) s m ([.ref h0, .int (nI k9), .int (nI jl), .int ov, .int cd, .int co] : List Value).toArray below meth c H locs 0 0 Q0 (F0 m 29 ls []) := by
      intro nP
      induction nP with
      | zero =>
        intro kP vB H locs ls hkP hvB hPD hS hl
        refine Kan2 hPD (fun hP hD => ?_)
        obtain rfl : k9 = kP := by omega
        have hl : lv_has ls 9 [(6, .int (nI k9)), (0, .ref h0), (1, .int (nI k9)), (2, .int (nI jl)), (3, .int ov), (4, .int cd), (5, .int co)] := hl
        refine lv_iload hx hb gX12_go_1.2.2.2.2.1 (lv_at0 hl) ?_
        refine lv_iload_n hx hb gX12_go_1.2.2.2.2.2.1 rfl (lv_at2 hl) ?_
        refine lv_icmp_ge (tgt := 55) hx hb gX12_go_1.2.2.2.2.2.2.1 (by decide) (fun _ => ?_) (fun c9 => absurd (Int32.le_refl _) c9)
        refine toQ hQ0 ?_
        exact RV hC hP hD hS [0, 1, 2, 3] (co, ftr, vB) rfl rfl (by decide) (by assumption) gX12_go_2.2.2.2.2.2.2.2.1
      | succ nP ihP =>
        intro kP vB H locs ls hkP hvB hPD hS hl
        refine Kan2 hPD (fun hP hD => ?_)
        refine lv_iload hx hb gX12_go_1.2.2.2.2.1 (lv_at0 hl) ?_
        refine lv_iload_n hx hb gX12_go_1.2.2.2.2.2.1 rfl (lv_at2 hl) ?_
        refine lv_icmp_ge (tgt := 55) hx hb gX12_go_1.2.2.2.2.2.2.1 (by decide) (fun c9 => absurd c9 (nI_ge (a := kP) (b := k9) (by omega) (by omega))) (fun _ => ?_)
        refine lv_aload_n hx hb gX12_go_1.2.2.2.2.2.2.2.1 rfl (lv_at1 hl) ?_
        refine gf_X12_60 hC rfl hK hP 0 rfl rfl gX12_go_1.2.2.2.2.2.2.2.2.1 ?_
        refine lv_iload hx hb gX12_go_1.2.2.2.2.2.2.2.2.2 (lv_at0 hl) ?_
        refine lv_aload_n hx hb gX12_go_2.1 rfl (lv_at1 hl) ?_
        refine gf_X12_57 hC rfl hK hP 0 rfl rfl gX12_go_2.2.1 ?_
        refine lv_iload hx hb gX12_go_2.2.2.1 (lv_at0 hl) ?_
        refine aldN hC hK hP 2 rfl (k := kP) (by omega) (Nat.le_of_ble_eq_true rfl) (v := ftr kP) rfl gX12_go_2.2.2.2.1 ?_
        refine lv_topi (fun x6200 ex6200 => ?_)
        refine astN hC hK hP hD hS 3 (ws' := [(h0, oX12 nw nk mhasKept nt mtaped nr mrowMany mroundOf mroundFrom mouts nm mfromHour mtoHour ns mfrom mto msort misFault mdeep mcoded mlines nl nc nF np ntr nb co nso nsi nit nsh nsf nss nrc mtraced mdealer mnumber mwhose msize misParted), (nw, iA G 1662 fnw), (ntr, iA G 7 ftr), (nb, iA G 7 (upd vB kP x6200))]) rfl (k := kP) (by omega) (Nat.le_of_ble_eq_true rfl) (rfl) gX12_go_2.2.2.2.2.1 (fun H locs hP hD hS => ?_)
        refine lv_iinc (v := nI (kP + 1)) (lv' := [(6, .int (nI (kP + 1))), (0, .ref h0), (1, .int (nI k9)), (2, .int (nI jl)), (3, .int ov), (4, .int cd), (5, .int co)]) hx hb gX12_go_2.2.2.2.2.2.1 hl (k := 0) rfl (nI_1 _) (by decide) rfl (fun ls hl => ?_)
        refine lv_goto (tgt := 29) hx hb gX12_go_2.2.2.2.2.2.2.1 (by decide) ?_
        exact ihP (kP + 1) (upd vB kP x6200) _ _ _ (by omega) (by first | assumption | exact Or.inl rfl | exact Or.inr rfl | exact B66.cp (by assumption) (by omega) (by assumption)) (And.intro hP hD) hS (lv_sub hl [0, 1, 2, 3, 4, 5, 6] rfl)
    exact keyP k9 0 fbe _ _ _ (by omega) (by first | assumption | exact Or.inl rfl | exact Or.inr rfl | exact B66.cp (by assumption) (by omega) (by assumption)) (And.intro hP hD) hS (lv_sub hl [0, 1, 2, 3, 4, 5, 6] rfl)
  · refine lv_iload hx hb gX12_go_0.2.2.2.2.2.1 (lv_at5 hl) ?_
    refine lv_aload_n hx hb gX12_go_0.2.2.2.2.2.2.1 rfl (lv_at0 hl) ?_
    refine gf_X12_320 hC rfl hK hP 0 rfl rfl gX12_go_0.2.2.2.2.2.2.2.1 ?_
    refine lv_icmp_ge (tgt := 55) hx hb gX12_go_0.2.2.2.2.2.2.2.2.1 (by decide) (fun c_17_6201 => ?_) (fun c_17_6201 => ?_)
    · refine toQ hQ0 ?_
      exact RV hC hP hD hS [0, 1, 2, 3] (bc, ftr, fbe) rfl rfl (by decide) (by assumption) gX12_go_2.2.2.2.2.2.2.2.1
    · refine lv_aload_n hx hb gX12_go_0.2.2.2.2.2.2.2.2.2 rfl (lv_at0 hl) ?_
      refine lv_iload hx hb gX12_go_1.1 (lv_at5 hl) ?_
      refine pf_X12_320 hC rfl hK hP hD hS 0 (ws' := [(h0, oX12 nw nk mhasKept nt mtaped nr mrowMany mroundOf mroundFrom mouts nm mfromHour mtoHour ns mfrom mto msort misFault mdeep mcoded mlines nl nc nF np ntr nb co nso nsi nit nsh nsf nss nrc mtraced mdealer mnumber mwhose msize misParted), (nw, iA G 1662 fnw), (ntr, iA G 7 ftr), (nb, iA G 7 fbe)]) rfl (Nat.le_of_ble_eq_true rfl) rfl rfl rfl gX12_go_1.2.1 (fun H locs hP hD hS => ?_)
      refine lv_iconst (v := 0) hx hb gX12_go_1.2.2.1 (by decide) ?_
      refine lv_istore (lv' := [(6, .int 0), (0, .ref h0), (1, .int (nI k9)), (2, .int (nI jl)), (3, .int ov), (4, .int cd), (5, .int co)]) hx hb gX12_go_1.2.2.2.1 hl (by decide) rfl (fun ls hl => ?_)
      have keyP : ∀ (nP kP : Nat) (vB : Nat → Int32) (H : Heap) (locs : List Loc) (ls : Array Slot), kP + nP = k9 → (B66 ftr vB) → va_PD G A [(h0, oX12 nw nk mhasKept nt mtaped nr mrowMany mroundOf mroundFrom mouts nm mfromHour mtoHour ns mfrom mto msort misFault mdeep mcoded mlines nl nc nF np ntr nb co nso nsi nit nsh nsf nss nrc mtraced mdealer mnumber mwhose msize misParted), (nw, iA G 1662 fnw), (ntr, iA G 7 ftr), (nb, iA G 7 vB)] H → va_S A s.heap H locs → lv_has ls 9 [(6, .int (nI kP)), (0, .ref h0), (1, .int (nI k9)), (2, .int (nI jl)), (3, .int ov), (4, .int cd), (5, .int co)] → W p l e (RM (0 + 2) 0 0) s m ([.ref h0, .int (nI k9), .int (nI jl), .int ov, .int cd, .int co] : List Value).toArray below meth c H locs 0 0 Q0 (F0 m 29 ls []) := by
        intro nP
        induction nP with
        | zero =>
          intro kP vB H locs ls hkP hvB hPD hS hl
          refine Kan2 hPD (fun hP hD => ?_)
          obtain rfl : k9 = kP := by omega
          have hl : lv_has ls 9 [(6, .int (nI k9)), (0, .ref h0), (1, .int (nI k9)), (2, .int (nI jl)), (3, .int ov), (4, .int cd), (5, .int co)] := hl
          refine lv_iload hx hb gX12_go_1.2.2.2.2.1 (lv_at0 hl) ?_
          refine lv_iload_n hx hb gX12_go_1.2.2.2.2.2.1 rfl (lv_at2 hl) ?_
          refine lv_icmp_ge (tgt := 55) hx hb gX12_go_1.2.2.2.2.2.2.1 (by decide) (fun _ => ?_) (fun c9 => absurd (Int32.le_refl _) c9)
          refine toQ hQ0 ?_
          exact RV hC hP hD hS [0, 1, 2, 3] (co, ftr, vB) rfl rfl (by decide) (by assumption) gX12_go_2.2.2.2.2.2.2.2.1
        | succ nP ihP =>
          intro kP vB H locs ls hkP hvB hPD hS hl
          refine Kan2 hPD (fun hP hD => ?_)
          refine lv_iload hx hb gX12_go_1.2.2.2.2.1 (lv_at0 hl) ?_
          refine lv_iload_n hx hb gX12_go_1.2.2.2.2.2.1 rfl (lv_at2 hl) ?_
          refine lv_icmp_ge (tgt := 55) hx hb gX12_go_1.2.2.2.2.2.2.1 (by decide) (fun c9 => absurd c9 (nI_ge (a := kP) (b := k9) (by omega) (by omega))) (fun _ => ?_)
          refine lv_aload_n hx hb gX12_go_1.2.2.2.2.2.2.2.1 rfl (lv_at1 hl) ?_
          refine gf_X12_60 hC rfl hK hP 0 rfl rfl gX12_go_1.2.2.2.2.2.2.2.2.1 ?_
          refine lv_iload hx hb gX12_go_1.2.2.2.2.2.2.2.2.2 (lv_at0 hl) ?_
          refine lv_aload_n hx hb gX12_go_2.1 rfl (lv_at1 hl) ?_
          refine gf_X12_57 hC rfl hK hP 0 rfl rfl gX12_go_2.2.1 ?_
          refine lv_iload hx hb gX12_go_2.2.2.1 (lv_at0 hl) ?_
          refine aldN hC hK hP 2 rfl (k := kP) (by omega) (Nat.le_of_ble_eq_true rfl) (v := ftr kP) rfl gX12_go_2.2.2.2.1 ?_
          refine lv_topi (fun x6202 ex6202 => ?_)
          refine astN hC hK hP hD hS 3 (ws' := [(h0, oX12 nw nk mhasKept nt mtaped nr mrowMany mroundOf mroundFrom mouts nm mfromHour mtoHour ns mfrom mto msort misFault mdeep mcoded mlines nl nc nF np ntr nb co nso nsi nit nsh nsf nss nrc mtraced mdealer mnumber mwhose msize misParted), (nw, iA G 1662 fnw), (ntr, iA G 7 ftr), (nb, iA G 7 (upd vB kP x6202))]) rfl (k := kP) (by omega) (Nat.le_of_ble_eq_true rfl) (rfl) gX12_go_2.2.2.2.2.1 (fun H locs hP hD hS => ?_)
          refine lv_iinc (v := nI (kP + 1)) (lv' := [(6, .int (nI (kP + 1))), (0, .ref h0), (1, .int (nI k9)), (2, .int (nI jl)), (3, .int ov), (4, .int cd), (5, .int co)]) hx hb gX12_go_2.2.2.2.2.2.1 hl (k := 0) rfl (nI_1 _) (by decide) rfl (fun ls hl => ?_)
          refine lv_goto (tgt := 29) hx hb gX12_go_2.2.2.2.2.2.2.1 (by decide) ?_
          exact ihP (kP + 1) (upd vB kP x6202) _ _ _ (by omega) (by first | assumption | exact Or.inl rfl | exact Or.inr rfl | exact B66.cp (by assumption) (by omega) (by assumption)) (And.intro hP hD) hS (lv_sub hl [0, 1, 2, 3, 4, 5, 6] rfl)
      exact keyP k9 0 fbe _ _ _ (by omega) (by first | assumption | exact Or.inl rfl | exact Or.inr rfl | exact B66.cp (by assumption) (by omega) (by assumption)) (And.intro hP hD) hS (lv_sub hl [0, 1, 2, 3, 4, 5, 6] rfl)
theorem m_go (l : Launch) (G : GG) : ∀ (mn : Nat) (h0 : Nat) (k9 : Nat) (jl : Nat) (ov : Int32) (cd : Int32) (co : Int32) (nw : Nat) (nk : Nat) (mhasKept : Int32) (nt : Nat) (mtaped : Int32) (nr : Nat) (mrowMany : Int32) (mroundOf : Int32) (mroundFrom : Int32) (mouts : Int32) (nm : Nat) (mfromHour : Int32) (mtoHour : Int32) (ns : Nat) (mfrom : Int32) (mto : Int32) (msort : Int32) (misFault : Int32) (mdeep : Int32) (mcoded : Int32) (mlines : Int32) (nl : Nat) (nc : Nat) (nF : Nat) (np : Nat) (ntr : Nat) (nb : Nat) (bc : Int32) (nso : Nat) (nsi : Nat) (nit : Nat) (nsh : Nat) (nsf : Nat) (nss : Nat) (nrc : Nat) (mtraced : Int32) (mdealer : Int32) (mnumber : Int32) (mwhose : Int32) (msize : Int32) (misParted : Int32) (fnw : Nat → Int32) (ftr : Nat → Int32) (fbe : Nat → Int32) (hjl : jl < 128) (hpc : pcnt jl ≤ mn) (hk9 : k9 + (mn) ≤ 7) (hB6 : B66 ftr fbe), MV l G yX12_go cX12_go 9 (mn + 2) 0 0 [.ref h0, .int (nI k9), .int (nI jl), .int ov, .int cd, .int co] [(h0, oX12 nw nk mhasKept nt mtaped nr mrowMany mroundOf mroundFrom mouts nm mfromHour mtoHour ns mfrom mto msort misFault mdeep mcoded mlines nl nc nF np ntr nb bc nso nsi nit nsh nsf nss nrc mtraced mdealer mnumber mwhose msize misParted), (nw, iA G 1662 fnw), (ntr, iA G 7 ftr), (nb, iA G 7 fbe)] (fun u : Int32 × (Nat → Int32) × (Nat → Int32) => B66 u.2.1 u.2.2) (fun u : Int32 × (Nat → Int32) × (Nat → Int32) => [(h0, oX12 nw nk mhasKept nt mtaped nr mrowMany mroundOf mroundFrom mouts nm mfromHour mtoHour ns mfrom mto msort misFault mdeep mcoded mlines nl nc nF np ntr nb u.1 nso nsi nit nsh nsf nss nrc mtraced mdealer mnumber mwhose msize misParted), (nw, iA G 1662 fnw), (ntr, iA G 7 u.2.1), (nb, iA G 7 u.2.2)]) := by
  intro mn
  induction mn with
  | zero => exact fun h0 k9 jl ov cd co nw nk mhasKept nt mtaped nr mrowMany mroundOf mroundFrom mouts nm mfromHour mtoHour ns mfrom mto msort misFault mdeep mcoded mlines nl nc nF np ntr nb bc nso nsi nit nsh nsf nss nrc mtraced mdealer mnumber mwhose msize misParted fnw ftr fbe h1 h2 h3 h4 => m_go_0 l G h0 k9 jl ov cd co nw nk mhasKept nt mtaped nr mrowMany mroundOf mroundFrom mouts nm mfromHour mtoHour ns mfrom mto msort misFault mdeep mcoded mlines nl nc nF np ntr nb bc nso nsi nit nsh nsf nss nrc mtraced mdealer mnumber mwhose msize misParted fnw ftr fbe h1 h2 h3 h4
  | succ mn ih => exact fun h0 k9 jl ov cd co nw nk mhasKept nt mtaped nr mrowMany mroundOf mroundFrom mouts nm mfromHour mtoHour ns mfrom mto msort misFault mdeep mcoded mlines nl nc nF np ntr nb bc nso nsi nit nsh nsf nss nrc mtraced mdealer mnumber mwhose msize misParted fnw ftr fbe h1 h2 h3 h4 => m_go_step l G mn h0 k9 jl ov cd co nw nk mhasKept nt mtaped nr mrowMany mroundOf mroundFrom mouts nm mfromHour mtoHour ns mfrom mto msort misFault mdeep mcoded mlines nl nc nF np ntr nb bc nso nsi nit nsh nsf nss nrc mtraced mdealer mnumber mwhose msize misParted fnw ftr fbe h1 h2 h3 h4 ih
def K_w_round (l : Launch) (G : GG) (h0 : Nat) (x1 : Int32) (nw : Nat) (nk : Nat) (mhasKept : Int32) (nt : Nat) (mtaped : Int32) (nr : Nat) (rm : Nat) (mroundOf : Int32) (mroundFrom : Int32) (mouts : Int32) (nm : Nat) (mfromHour : Int32) (mtoHour : Int32) (ns : Nat) (mfrom : Int32) (mto : Int32) (msort : Int32) (misFault : Int32) (mdeep : Int32) (mcoded : Int32) (mlines : Int32) (nl : Nat) (nc : Nat) (nF : Nat) (np : Nat) (ntr : Nat) (nb : Nat) (mbestCost : Int32) (nso : Nat) (nsi : Nat) (nit : Nat) (nsh : Nat) (nsf : Nat) (nss : Nat) (nrc : Nat) (mtraced : Int32) (mdealer : Int32) (mnumber : Int32) (mwhose : Int32) (msize : Int32) (misParted : Int32) (fnw : Nat → Int32) (ftr : Nat → Int32) (fbe : Nat → Int32) (fnr : Nat → Int32) : Prop := MI l G yX12_round cX12_round 4 (some .int) 10 0 0 [.ref h0, .int x1] [(h0, oX12 nw nk mhasKept nt mtaped nr (nI rm) mroundOf mroundFrom mouts nm mfromHour mtoHour ns mfrom mto msort misFault mdeep mcoded mlines nl nc nF np ntr nb mbestCost nso nsi nit nsh nsf nss nrc mtraced mdealer mnumber mwhose msize misParted), (nw, iA G 1662 fnw), (ntr, iA G 7 ftr), (nb, iA G 7 fbe), (nr, iA G 14 fnr)] (fun (r : Int32) (u : Int32 × Nat × Int32 × Int32 × (Nat → Int32) × (Nat → Int32) × (Nat → Int32)) => (True) ∧ (u.2.1 ≤ 7 ∧ B66 u.2.2.2.2.1 u.2.2.2.2.2.1)) (fun u : Int32 × Nat × Int32 × Int32 × (Nat → Int32) × (Nat → Int32) × (Nat → Int32) => [(h0, oX12 nw nk mhasKept nt mtaped nr (nI u.2.1) u.2.2.1 u.2.2.2.1 mouts nm mfromHour mtoHour ns mfrom mto msort misFault mdeep mcoded mlines nl nc nF np ntr nb u.1 nso nsi nit nsh nsf nss nrc mtraced mdealer mnumber mwhose msize misParted), (nw, iA G 1662 fnw), (ntr, iA G 7 u.2.2.2.2.1), (nb, iA G 7 u.2.2.2.2.2.1), (nr, iA G 14 u.2.2.2.2.2.2)])
set_option maxHeartbeats 4000000 in
set_option maxRecDepth 100000 in
theorem w_round (l : Launch) (G : GG) (h0 : Nat) (x1 : Int32) (nw : Nat) (nk : Nat) (mhasKept : Int32) (nt : Nat) (mtaped : Int32) (nr : Nat) (rm : Nat) (mroundOf : Int32) (mroundFrom : Int32) (mouts : Int32) (nm : Nat) (mfromHour : Int32) (mtoHour : Int32) (ns : Nat) (mfrom : Int32) (mto : Int32) (msort : Int32) (misFault : Int32) (mdeep : Int32) (mcoded : Int32) (mlines : Int32) (nl : Nat) (nc : Nat) (nF : Nat) (np : Nat) (ntr : Nat) (nb : Nat) (mbestCost : Int32) (nso : Nat) (nsi : Nat) (nit : Nat) (nsh : Nat) (nsf : Nat) (nss : Nat) (nrc : Nat) (mtraced : Int32) (mdealer : Int32) (mnumber : Int32) (mwhose : Int32) (msize : Int32) (misParted : Int32) (fnw : Nat → Int32) (ftr : Nat → Int32) (fbe : Nat → Int32) (fnr : Nat → Int32) (hrm : rm ≤ 7) (hB6 : B66 ftr fbe) (hN : NI fnw) : K_w_round l G h0 x1 nw nk mhasKept nt mtaped nr rm mroundOf mroundFrom mouts nm mfromHour mtoHour ns mfrom mto msort misFault mdeep mcoded mlines nl nc nF np ntr nb mbestCost nso nsi nit nsh nsf nss nrc mtraced mdealer mnumber mwhose msize misParted fnw ftr fbe fnr := by
  refine MI.start (by decide +kernel) (Nat.le_of_ble_eq_true rfl) ?_
  intro p e s m below meth c A ls hC hK hP hD hS hA hl
  refine absQ (fun Q0 hQ0 => ?_)
  have hl : lv_has ls 4 [(0, .ref h0), (1, .int x1)] := hl
  refine Kan8 hC (fun hx hb hr hml hB hown hlocks hnm => ?_)
  obtain ⟨k11, hk11, ek11⟩ := NI.nat hN (i := 11) (B := 7) (by decide +kernel) (by decide)
  refine lv_iload_n hx hb gX12_round_0.1 rfl (lv_at1 hl) ?_
  refine lv_if_lt (tgt := 17) hx hb gX12_round_0.2.1 (by decide) (fun c_1_6203 => ?_) (fun c_1_6203 => ?_)
  · refine lv_iconst (v := (-1)) hx hb gX12_round_1.1 (by decide) ?_
    refine toQ hQ0 ?_
    exact RI (v := (-1)) hC hP hD hS [0, 1, 2, 3, 4] (mbestCost, rm, mroundOf, mroundFrom, ftr, fbe, fnr) rfl rfl (by decide) (⟨trivial, ⟨by omega, by assumption⟩⟩) rfl gX12_round_1.2.1
  · refine lv_iload_n hx hb gX12_round_0.2.2.1 rfl (lv_at1 hl) ?_
    refine lv_iconst (v := 1) hx hb gX12_round_0.2.2.2.1 (by decide) ?_
    refine lv_aload_n hx hb gX12_round_0.2.2.2.2.1 rfl (lv_at0 hl) ?_
    refine gf_X12_9 hC rfl hK hP 0 rfl rfl gX12_round_0.2.2.2.2.2.1 ?_
    refine lv_bipush (v := 11) hx hb gX12_round_0.2.2.2.2.2.2.1 (by decide) ?_
    refine ald hC hK hP 1 rfl (vin (by decide +kernel)) (k := 11) (by decide +kernel) (v := nI k11) (ek11) gX12_round_0.2.2.2.2.2.2.2.1 ?_
    refine lv_ishl hx hb gX12_round_0.2.2.2.2.2.2.2.2.1 ?_
    refine lv_icmp_lt (tgt := 19) hx hb gX12_round_0.2.2.2.2.2.2.2.2.2 (by decide) (fun c_14_6204 => ?_) (fun c_14_6204 => ?_)
    · obtain ⟨jl, hjl, rfl⟩ := lt_shl (by omega) c_1_6203 c_14_6204
      refine lv_iload_n hx hb gX12_round_1.2.2.1 rfl (lv_at1 hl) ?_
      refine lv_if_ne (tgt := 26) hx hb gX12_round_1.2.2.2.1 (by decide) (fun c_20_6205 => ?_) (fun c_20_6205 => ?_)
      · refine lv_aload_n hx hb gX12_round_1.2.2.2.2.2.2.1 rfl (lv_at0 hl) ?_
        refine lv_iconst (v := (-1)) hx hb gX12_round_1.2.2.2.2.2.2.2.1 (by decide) ?_
        refine pf_X12_320 hC rfl hK hP hD hS 0 (ws' := [(h0, oX12 nw nk mhasKept nt mtaped nr (nI rm) mroundOf mroundFrom mouts nm mfromHour mtoHour ns mfrom mto msort misFault mdeep mcoded mlines nl nc nF np ntr nb (-1) nso nsi nit nsh nsf nss nrc mtraced mdealer mnumber mwhose msize misParted), (nw, iA G 1662 fnw), (ntr, iA G 7 ftr), (nb, iA G 7 fbe), (nr, iA G 14 fnr)]) rfl (Nat.le_of_ble_eq_true rfl) rfl rfl rfl gX12_round_1.2.2.2.2.2.2.2.2.1 (fun H locs hP hD hS => ?_)
        refine lv_aload_n hx hb gX12_round_1.2.2.2.2.2.2.2.2.2 rfl (lv_at0 hl) ?_
        refine lv_iconst (v := 0) hx hb gX12_round_2.1 (by decide) ?_
        refine lv_iload_n hx hb gX12_round_2.2.1 rfl (lv_at1 hl) ?_
        refine lv_iconst (v := 0) hx hb gX12_round_2.2.2.1 (by decide) ?_
        refine lv_iconst (v := 0) hx hb gX12_round_2.2.2.2.1 (by decide) ?_
        refine lv_iconst (v := 0) hx hb gX12_round_2.2.2.2.2.1 (by decide) ?_
        refine vV (wr := [(nr, iA G 14 fnr)]) hC hK hl hP hD hS hA (m_go l G 7 h0 0 jl 0 0 0 nw nk mhasKept nt mtaped nr (nI rm) mroundOf mroundFrom mouts nm mfromHour mtoHour ns mfrom mto msort misFault mdeep mcoded mlines nl nc nF np ntr nb (-1) nso nsi nit nsh nsf nss nrc mtraced mdealer mnumber mwhose msize misParted fnw ftr fbe (by omega) (pcnt_le _) (by omega) (hB6)) si_X12_323 [0, 1, 2, 3] [4] sm_0_1_2_3 fm_0_1_2_3 nd_0_1_2_3 sm_4 nd_4 dj_0_1_2_3__4 rfl rfl rfl rfl rfl (Nat.le_of_ble_eq_true rfl) ⟨Nat.le_of_ble_eq_true rfl, Nat.le_of_ble_eq_true rfl⟩ ⟨Nat.le_of_ble_eq_true rfl, Nat.le_of_ble_eq_true rfl⟩ gX12_round_2.2.2.2.2.2.1 (Ktu3 fun bc16208 gtr6209 gbe6210 => ?_)
        intro H locs hr6206 hP hD hS
        try dsimp only at hr6206
        refine Kpdr (ws := [(nr, iA G 14 fnr), (h0, oX12 nw nk mhasKept nt mtaped nr (nI rm) mroundOf mroundFrom mouts nm mfromHour mtoHour ns mfrom mto msort misFault mdeep mcoded mlines nl nc nF np ntr nb bc16208 nso nsi nit nsh nsf nss nrc mtraced mdealer mnumber mwhose msize misParted), (nw, iA G 1662 fnw), (ntr, iA G 7 gtr6209), (nb, iA G 7 gbe6210)]) hP hD (fun hP hD => ?_)
        have w6211 := hr6206
        refine lv_aload_n hx hb gX12_round_2.2.2.2.2.2.2.1 rfl (lv_at0 hl) ?_
        refine lv_iload_n hx hb gX12_round_2.2.2.2.2.2.2.2.1 rfl (lv_at1 hl) ?_
        refine pS hC hK hl (m_bits7 l G jl (by omega)) si_X12_110 rfl rfl (Nat.le_of_ble_eq_true rfl) rm_10_1_3 ⟨by first | exact Nat.le_of_ble_eq_true rfl | exact Nat.zero_le _, by first | exact Nat.le_of_ble_eq_true rfl | exact Nat.zero_le _⟩ gX12_round_2.2.2.2.2.2.2.2.2.1 (fun r6212 hr6212 => ?_)
        obtain ⟨b9_6213, hpx6213, rfl⟩ := hr6212
        try dsimp only at hpx6213
        refine pf_X12_327 hC rfl hK hP hD hS 1 (ws' := [(nr, iA G 14 fnr), (h0, oX12 nw nk mhasKept nt mtaped nr (nI b9_6213) mroundOf mroundFrom mouts nm mfromHour mtoHour ns mfrom mto msort misFault mdeep mcoded mlines nl nc nF np ntr nb bc16208 nso nsi nit nsh nsf nss nrc mtraced mdealer mnumber mwhose msize misParted), (nw, iA G 1662 fnw), (ntr, iA G 7 gtr6209), (nb, iA G 7 gbe6210)]) rfl (Nat.le_of_ble_eq_true rfl) rfl rfl rfl gX12_round_2.2.2.2.2.2.2.2.2.2 (fun H locs hP hD hS => ?_)
        refine lv_aload_n hx hb gX12_round_3.1 rfl (lv_at0 hl) ?_
        refine lv_iload_n hx hb gX12_round_3.2.1 rfl (lv_at1 hl) ?_
        refine pf_X12_22 hC rfl hK hP hD hS 1 (ws' := [(nr, iA G 14 fnr), (h0, oX12 nw nk mhasKept nt mtaped nr (nI b9_6213) (nI jl) mroundFrom mouts nm mfromHour mtoHour ns mfrom mto msort misFault mdeep mcoded mlines nl nc nF np ntr nb bc16208 nso nsi nit nsh nsf nss nrc mtraced mdealer mnumber mwhose msize misParted), (nw, iA G 1662 fnw), (ntr, iA G 7 gtr6209), (nb, iA G 7 gbe6210)]) rfl (Nat.le_of_ble_eq_true rfl) rfl rfl rfl gX12_round_3.2.2.1 (fun H locs hP hD hS => ?_)
        refine lv_aload_n hx hb gX12_round_3.2.2.2.1 rfl (lv_at0 hl) ?_
        refine lv_aload_n hx hb gX12_round_3.2.2.2.2.1 rfl (lv_at0 hl) ?_
        refine gf_X12_9 hC rfl hK hP 1 rfl rfl gX12_round_3.2.2.2.2.2.1 ?_
        refine lv_iconst (v := 0) hx hb gX12_round_3.2.2.2.2.2.2.1 (by decide) ?_
        refine ald hC hK hP 2 rfl (vin (by decide +kernel)) (k := 0) (by decide +kernel) (v := fnw 0) (rfl) gX12_round_3.2.2.2.2.2.2.2.1 ?_
        refine pf_X12_330 hC rfl hK hP hD hS 1 (ws' := [(nr, iA G 14 fnr), (h0, oX12 nw nk mhasKept nt mtaped nr (nI b9_6213) (nI jl) (fnw 0) mouts nm mfromHour mtoHour ns mfrom mto msort misFault mdeep mcoded mlines nl nc nF np ntr nb bc16208 nso nsi nit nsh nsf nss nrc mtraced mdealer mnumber mwhose msize misParted), (nw, iA G 1662 fnw), (ntr, iA G 7 gtr6209), (nb, iA G 7 gbe6210)]) rfl (Nat.le_of_ble_eq_true rfl) rfl rfl rfl gX12_round_3.2.2.2.2.2.2.2.2.1 (fun H locs hP hD hS => ?_)
        refine lv_aload_n hx hb gX12_round_3.2.2.2.2.2.2.2.2.2 rfl (lv_at0 hl) ?_
        refine gf_X12_330 hC rfl hK hP 1 rfl rfl gX12_round_4.1 ?_
        refine lv_istore_n (lv' := [(2, .int (fnw 0)), (0, .ref h0), (1, .int (nI jl))]) hx hb gX12_round_4.2.1 rfl hl (by decide) rfl (fun ls hl => ?_)
        refine lv_iconst (v := 0) hx hb gX12_round_4.2.2.1 (by decide) ?_
        refine lv_istore_n (lv' := [(3, .int 0), (2, .int (fnw 0)), (0, .ref h0), (1, .int (nI jl))]) hx hb gX12_round_4.2.2.2.1 rfl hl (by decide) rfl (fun ls hl => ?_)
        have keyP : ∀ (nP kP : Nat) (ov9 : Int32) (vR : Nat → Int32) (H : Heap) (locs : List Loc) (ls : Array Slot), kP + nP = b9_6213 → va_PD G A [(nr, iA G 14 vR), (h0, oX12 nw nk mhasKept nt mtaped nr (nI b9_6213) (nI jl) (fnw 0) mouts nm mfromHour mtoHour ns mfrom mto msort misFault mdeep mcoded mlines nl nc nF np ntr nb bc16208 nso nsi nit nsh nsf nss nrc mtraced mdealer mnumber mwhose msize misParted), (nw, iA G 1662 fnw), (ntr, iA G 7 gtr6209), (nb, iA G 7 gbe6210)] H → va_S A s.heap H locs → lv_has ls 4 [(3, .int (nI kP)), (2, .int ov9), (0, .ref h0), (1, .int (nI jl))] → W p l e (RM 10 0 0) s m ([.ref h0, .int (nI jl)] : List Value).toArray below meth c H locs 0 0 Q0 (F0 m 70 ls []) := by
          intro nP
          induction nP with
          | zero =>
            intro kP ov9 vR H locs ls hkP hPD hS hl
            refine Kan2 hPD (fun hP hD => ?_)
            obtain rfl : b9_6213 = kP := by omega
            have hl : lv_has ls 4 [(3, .int (nI b9_6213)), (2, .int ov9), (0, .ref h0), (1, .int (nI jl))] := hl
            refine lv_iload_n hx hb gX12_round_4.2.2.2.2.1 rfl (lv_at0 hl) ?_
            refine lv_aload_n hx hb gX12_round_4.2.2.2.2.2.1 rfl (lv_at2 hl) ?_
            refine gf_X12_327 hC rfl hK hP 1 rfl rfl gX12_round_4.2.2.2.2.2.2.1 ?_
            refine lv_icmp_ge (tgt := 129) hx hb gX12_round_4.2.2.2.2.2.2.2.1 (by decide) (fun _ => ?_) (fun c9 => absurd (Int32.le_refl _) c9)
            refine lv_aload_n hx hb gX12_round_8.2.2.2.1 rfl (lv_at2 hl) ?_
            refine gf_X12_320 hC rfl hK hP 1 rfl rfl gX12_round_8.2.2.2.2.1 ?_
            refine toQ hQ0 ?_
            exact RI (v := bc16208) hC hP hD hS [1, 2, 3, 4, 0] (bc16208, b9_6213, nI jl, fnw 0, gtr6209, gbe6210, vR) rfl rfl (by decide) (⟨trivial, ⟨by omega, by assumption⟩⟩) rfl gX12_round_8.2.2.2.2.2
          | succ nP ihP =>
            intro kP ov9 vR H locs ls hkP hPD hS hl
            refine Kan2 hPD (fun hP hD => ?_)
            refine lv_iload_n hx hb gX12_round_4.2.2.2.2.1 rfl (lv_at0 hl) ?_
            refine lv_aload_n hx hb gX12_round_4.2.2.2.2.2.1 rfl (lv_at2 hl) ?_
            refine gf_X12_327 hC rfl hK hP 1 rfl rfl gX12_round_4.2.2.2.2.2.2.1 ?_
            refine lv_icmp_ge (tgt := 129) hx hb gX12_round_4.2.2.2.2.2.2.2.1 (by decide) (fun c9 => absurd c9 (nI_ge (a := kP) (b := b9_6213) (by omega) (by omega))) (fun _ => ?_)
            refine lv_iload_n hx hb gX12_round_4.2.2.2.2.2.2.2.2.1 rfl (lv_at1 hl) ?_
            refine lv_aload_n hx hb gX12_round_4.2.2.2.2.2.2.2.2.2 rfl (lv_at2 hl) ?_
            refine gf_X12_9 hC rfl hK hP 1 rfl rfl gX12_round_5.1 ?_
            refine lv_sipush (v := 1648) hx hb gX12_round_5.2.1 (by decide) ?_
            refine lv_iconst (v := 2) hx hb gX12_round_5.2.2.1 (by decide) ?_
            refine lv_aload_n hx hb gX12_round_5.2.2.2.1 rfl (lv_at2 hl) ?_
            refine gf_X12_60 hC rfl hK hP 1 rfl rfl gX12_round_5.2.2.2.2.1 ?_
            refine lv_iload_n hx hb gX12_round_5.2.2.2.2.2.1 rfl (lv_at0 hl) ?_
            refine aldN hC hK hP 4 rfl (k := kP) (by omega) (Nat.le_of_ble_eq_true rfl) (v := gbe6210 kP) rfl gX12_round_5.2.2.2.2.2.2.1 ?_
            refine lv_topi (fun x6214 ex6214 => ?_)
            obtain ⟨jq9, hjq9, ejq9⟩ := (w6211).2 kP (by omega)
            refine eqi (x1 := nI jq9) (ex6214.trans ejq9) ?_
            refine lv_imul hx hb gX12_round_5.2.2.2.2.2.2.2.1 ?_
            refine eqi (x1 := nI (2 * jq9)) (nI_mul 2 jq9) ?_
            refine lv_iadd hx hb gX12_round_5.2.2.2.2.2.2.2.2.1 ?_
            refine eqi (x1 := nI (1648 + 2 * jq9)) (nI_add 1648 (2 * jq9)) ?_
            refine aldN hC hK hP 2 rfl (k := (1648 + 2 * jq9)) (by omega) (Nat.le_of_ble_eq_true rfl) (v := fnw (1648 + 2 * jq9)) rfl gX12_round_5.2.2.2.2.2.2.2.2.2 ?_
            refine lv_topi (fun x6215 ex6215 => ?_)
            refine lv_iadd hx hb gX12_round_6.1 ?_
            refine lv_istore_n (lv' := [(2, .int (ov9 + x6215)), (3, .int (nI kP)), (0, .ref h0), (1, .int (nI jl))]) hx hb gX12_round_6.2.1 rfl hl (by decide) rfl (fun ls hl => ?_)
            refine lv_aload_n hx hb gX12_round_6.2.2.1 rfl (lv_at2 hl) ?_
            refine gf_X12_19 hC rfl hK hP 1 rfl rfl gX12_round_6.2.2.2.1 ?_
            refine lv_iconst (v := 2) hx hb gX12_round_6.2.2.2.2.1 (by decide) ?_
            refine lv_iload_n hx hb gX12_round_6.2.2.2.2.2.1 rfl (lv_at1 hl) ?_
            refine lv_imul hx hb gX12_round_6.2.2.2.2.2.2.1 ?_
            refine eqi (x1 := nI (2 * kP)) (nI_mul 2 kP) ?_
            refine lv_aload_n hx hb gX12_round_6.2.2.2.2.2.2.2.1 rfl (lv_at2 hl) ?_
            refine gf_X12_60 hC rfl hK hP 1 rfl rfl gX12_round_6.2.2.2.2.2.2.2.2.1 ?_
            refine lv_iload_n hx hb gX12_round_6.2.2.2.2.2.2.2.2.2 rfl (lv_at1 hl) ?_
            refine aldN hC hK hP 4 rfl (k := kP) (by omega) (Nat.le_of_ble_eq_true rfl) (v := gbe6210 kP) rfl gX12_round_7.1 ?_
            refine lv_topi (fun x6216 ex6216 => ?_)
            refine astN hC hK hP hD hS 0 (ws' := [(nr, iA G 14 (upd vR (2 * kP) x6216)), (h0, oX12 nw nk mhasKept nt mtaped nr (nI b9_6213) (nI jl) (fnw 0) mouts nm mfromHour mtoHour ns mfrom mto msort misFault mdeep mcoded mlines nl nc nF np ntr nb bc16208 nso nsi nit nsh nsf nss nrc mtraced mdealer mnumber mwhose msize misParted), (nw, iA G 1662 fnw), (ntr, iA G 7 gtr6209), (nb, iA G 7 gbe6210)]) rfl (k := (2 * kP)) (by omega) (Nat.le_of_ble_eq_true rfl) (rfl) gX12_round_7.2.1 (fun H locs hP hD hS => ?_)
            refine lv_aload_n hx hb gX12_round_7.2.2.1 rfl (lv_at2 hl) ?_
            refine gf_X12_19 hC rfl hK hP 1 rfl rfl gX12_round_7.2.2.2.1 ?_
            refine lv_iconst (v := 2) hx hb gX12_round_7.2.2.2.2.1 (by decide) ?_
            refine lv_iload_n hx hb gX12_round_7.2.2.2.2.2.1 rfl (lv_at1 hl) ?_
            refine lv_imul hx hb gX12_round_7.2.2.2.2.2.2.1 ?_
            refine eqi (x1 := nI (2 * kP)) (nI_mul 2 kP) ?_
            refine lv_iconst (v := 1) hx hb gX12_round_7.2.2.2.2.2.2.2.1 (by decide) ?_
            refine lv_iadd hx hb gX12_round_7.2.2.2.2.2.2.2.2.1 ?_
            refine eqi (x1 := nI (2 * kP + 1)) (nI_add (2 * kP) 1) ?_
            refine lv_iload_n hx hb gX12_round_7.2.2.2.2.2.2.2.2.2 rfl (lv_at0 hl) ?_
            refine astN hC hK hP hD hS 0 (ws' := [(nr, iA G 14 (upd (upd vR (2 * kP) x6216) (2 * kP + 1) (ov9 + x6215))), (h0, oX12 nw nk mhasKept nt mtaped nr (nI b9_6213) (nI jl) (fnw 0) mouts nm mfromHour mtoHour ns mfrom mto msort misFault mdeep mcoded mlines nl nc nF np ntr nb bc16208 nso nsi nit nsh nsf nss nrc mtraced mdealer mnumber mwhose msize misParted), (nw, iA G 1662 fnw), (ntr, iA G 7 gtr6209), (nb, iA G 7 gbe6210)]) rfl (k := (2 * kP + 1)) (by omega) (Nat.le_of_ble_eq_true rfl) (rfl) gX12_round_8.1 (fun H locs hP hD hS => ?_)
            refine lv_iinc (v := nI (kP + 1)) (lv' := [(3, .int (nI (kP + 1))), (2, .int (ov9 + x6215)), (0, .ref h0), (1, .int (nI jl))]) hx hb gX12_round_8.2.1 hl (k := 1) rfl (nI_1 _) (by decide) rfl (fun ls hl => ?_)
            refine lv_goto (tgt := 70) hx hb gX12_round_8.2.2.1 (by decide) ?_
            exact ihP (kP + 1) (ov9 + x6215) (upd (upd vR (2 * kP) x6216) (2 * kP + 1) (ov9 + x6215)) _ _ _ (by omega) (And.intro hP hD) hS (lv_sub hl [0, 1, 2, 3] rfl)
        exact keyP b9_6213 0 (fnw 0) fnr _ _ _ (by omega) (And.intro hP hD) hS (lv_sub hl [0, 1, 2, 3] rfl)
      · refine lv_bipush (v := (-3)) hx hb gX12_round_1.2.2.2.2.1 (by decide) ?_
        refine toQ hQ0 ?_
        exact RI (v := (-3)) hC hP hD hS [0, 1, 2, 3, 4] (mbestCost, rm, mroundOf, mroundFrom, ftr, fbe, fnr) rfl rfl (by decide) (⟨trivial, ⟨by omega, by assumption⟩⟩) rfl gX12_round_1.2.2.2.2.2.1
    · refine lv_iconst (v := (-1)) hx hb gX12_round_1.1 (by decide) ?_
      refine toQ hQ0 ?_
      exact RI (v := (-1)) hC hP hD hS [0, 1, 2, 3, 4] (mbestCost, rm, mroundOf, mroundFrom, ftr, fbe, fnr) rfl rfl (by decide) (⟨trivial, ⟨by omega, by assumption⟩⟩) rfl gX12_round_1.2.1
def K_m_isRow (l : Launch) (G : GG) (h0 : Nat) (i9 : Int32) (wh : Int32) (nw : Nat) (nk : Nat) (mhasKept : Int32) (nt : Nat) (mtaped : Int32) (nr : Nat) (rm : Nat) (mroundOf : Int32) (mroundFrom : Int32) (mouts : Int32) (nm : Nat) (mfromHour : Int32) (mtoHour : Int32) (ns : Nat) (mfrom : Int32) (mto : Int32) (msort : Int32) (misFault : Int32) (mdeep : Int32) (mcoded : Int32) (mlines : Int32) (nl : Nat) (nc : Nat) (nF : Nat) (np : Nat) (ntr : Nat) (nb : Nat) (mbestCost : Int32) (nso : Nat) (nsi : Nat) (nit : Nat) (nsh : Nat) (nsf : Nat) (nss : Nat) (nrc : Nat) (mtraced : Int32) (mdealer : Int32) (mnumber : Int32) (mwhose : Int32) (msize : Int32) (misParted : Int32) : Prop := MP l G yX12_isRow cX12_isRow 3 (some .boolean) 2 [.ref h0, .int i9, .int wh] [(h0, oX12 nw nk mhasKept nt mtaped nr (nI rm) mroundOf mroundFrom mouts nm mfromHour mtoHour ns mfrom mto msort misFault mdeep mcoded mlines nl nc nF np ntr nb mbestCost nso nsi nit nsh nsf nss nrc mtraced mdealer mnumber mwhose msize misParted)] (fun r : Int32 => (r = 1 ∧ Hs i9 rm ∧ Wi wh 0 1) ∨ r = 0)
set_option maxHeartbeats 4000000 in
set_option maxRecDepth 100000 in
theorem m_isRow (l : Launch) (G : GG) (h0 : Nat) (i9 : Int32) (wh : Int32) (nw : Nat) (nk : Nat) (mhasKept : Int32) (nt : Nat) (mtaped : Int32) (nr : Nat) (rm : Nat) (mroundOf : Int32) (mroundFrom : Int32) (mouts : Int32) (nm : Nat) (mfromHour : Int32) (mtoHour : Int32) (ns : Nat) (mfrom : Int32) (mto : Int32) (msort : Int32) (misFault : Int32) (mdeep : Int32) (mcoded : Int32) (mlines : Int32) (nl : Nat) (nc : Nat) (nF : Nat) (np : Nat) (ntr : Nat) (nb : Nat) (mbestCost : Int32) (nso : Nat) (nsi : Nat) (nit : Nat) (nsh : Nat) (nsf : Nat) (nss : Nat) (nrc : Nat) (mtraced : Int32) (mdealer : Int32) (mnumber : Int32) (mwhose : Int32) (msize : Int32) (misParted : Int32) (hrm : rm ≤ 7) : K_m_isRow l G h0 i9 wh nw nk mhasKept nt mtaped nr rm mroundOf mroundFrom mouts nm mfromHour mtoHour ns mfrom mto msort misFault mdeep mcoded mlines nl nc nF np ntr nb mbestCost nso nsi nit nsh nsf nss nrc mtraced mdealer mnumber mwhose msize misParted := by
  refine MP.start (by decide +kernel) (Nat.le_of_ble_eq_true rfl) ?_
  intro p e s m below meth c ls hC hK hP hD hl
  refine absQ (fun Q0 hQ0 => ?_)
  have hl : lv_has ls 3 [(0, .ref h0), (1, .int i9), (2, .int wh)] := hl
  refine Kan8 hC (fun hx hb hr hml hB hown hlocks hnm => ?_)
  refine lv_iload_n hx hb gX12_isRow_0.1 rfl (lv_at1 hl) ?_
  refine lv_iconst (v := 0) hx hb gX12_isRow_0.2.1 (by decide) ?_
  refine lv_aload_n hx hb gX12_isRow_0.2.2.1 rfl (lv_at0 hl) ?_
  refine gf_X12_327 hC rfl hK hP 0 rfl rfl gX12_isRow_0.2.2.2.1 ?_
  refine lv_iconst (v := 1) hx hb gX12_isRow_0.2.2.2.2.1 (by decide) ?_
  refine lv_isub hx hb gX12_isRow_0.2.2.2.2.2.1 ?_
  refine eqi (x1 := (nI rm) - 1) (rfl) ?_
  refine pS hC hK hl (m_within l G i9 0 ((nI rm) - 1)) si_X12_84 rfl rfl (Nat.le_of_ble_eq_true rfl) rm_2_1_3 ⟨by first | exact Nat.le_of_ble_eq_true rfl | exact Nat.zero_le _, by first | exact Nat.le_of_ble_eq_true rfl | exact Nat.zero_le _⟩ gX12_isRow_0.2.2.2.2.2.2.1 (Kors (Keqa fun a6218 => ?_) (Keqa fun a6218 => ?_))
  · refine lv_if_eq (tgt := 27) hx hb gX12_isRow_0.2.2.2.2.2.2.2.1 (by decide) (fun c9 => absurd c9 (by decide)) (fun _ => ?_)
    refine lv_iload_n hx hb gX12_isRow_0.2.2.2.2.2.2.2.2.1 rfl (lv_at2 hl) ?_
    refine lv_iconst (v := 0) hx hb gX12_isRow_0.2.2.2.2.2.2.2.2.2 (by decide) ?_
    refine lv_iconst (v := 1) hx hb gX12_isRow_1.1 (by decide) ?_
    refine pS hC hK hl (m_within l G wh 0 1) si_X12_84 rfl rfl (Nat.le_of_ble_eq_true rfl) rm_2_1_3 ⟨by first | exact Nat.le_of_ble_eq_true rfl | exact Nat.zero_le _, by first | exact Nat.le_of_ble_eq_true rfl | exact Nat.zero_le _⟩ gX12_isRow_1.2.1 (Kors (Keqa fun a6220 => ?_) (Keqa fun a6220 => ?_))
    · refine lv_if_eq (tgt := 27) hx hb gX12_isRow_1.2.2.1 (by decide) (fun c9 => absurd c9 (by decide)) (fun _ => ?_)
      refine lv_iconst (v := 1) hx hb gX12_isRow_1.2.2.2.1 (by decide) ?_
      refine lv_goto (tgt := 28) hx hb gX12_isRow_1.2.2.2.2.1 (by decide) ?_
      refine toQ hQ0 ?_
      exact RP (v := 1) hC (Or.inl ⟨rfl, (WiHs (by omega)).mp a6218, a6220⟩) (by decide +kernel) gX12_isRow_1.2.2.2.2.2.2
    · refine lv_if_eq (tgt := 27) hx hb gX12_isRow_1.2.2.1 (by decide) (fun _ => ?_) (fun c9 => absurd (by decide) c9)
      refine lv_iconst (v := 0) hx hb gX12_isRow_1.2.2.2.2.2.1 (by decide) ?_
      refine toQ hQ0 ?_
      exact RP (v := 0) hC (Or.inr rfl) (by decide +kernel) gX12_isRow_1.2.2.2.2.2.2
  · refine lv_if_eq (tgt := 27) hx hb gX12_isRow_0.2.2.2.2.2.2.2.1 (by decide) (fun _ => ?_) (fun c9 => absurd (by decide) c9)
    refine lv_iconst (v := 0) hx hb gX12_isRow_1.2.2.2.2.2.1 (by decide) ?_
    refine toQ hQ0 ?_
    exact RP (v := 0) hC (Or.inr rfl) (by decide +kernel) gX12_isRow_1.2.2.2.2.2.2
def K_r_row (l : Launch) (G : GG) (h0 : Nat) (x1 : Int32) (x2 : Int32) (nw : Nat) (nk : Nat) (mhasKept : Int32) (nt : Nat) (mtaped : Int32) (nr : Nat) (rm : Nat) (mroundOf : Int32) (mroundFrom : Int32) (mouts : Int32) (nm : Nat) (mfromHour : Int32) (mtoHour : Int32) (ns : Nat) (mfrom : Int32) (mto : Int32) (msort : Int32) (misFault : Int32) (mdeep : Int32) (mcoded : Int32) (mlines : Int32) (nl : Nat) (nc : Nat) (nF : Nat) (np : Nat) (ntr : Nat) (nb : Nat) (mbestCost : Int32) (nso : Nat) (nsi : Nat) (nit : Nat) (nsh : Nat) (nsf : Nat) (nss : Nat) (nrc : Nat) (mtraced : Int32) (mdealer : Int32) (mnumber : Int32) (mwhose : Int32) (msize : Int32) (misParted : Int32) (fnr : Nat → Int32) : Prop := MP l G yX12_row cX12_row 3 (some .int) 3 [.ref h0, .int x1, .int x2] [(h0, oX12 nw nk mhasKept nt mtaped nr (nI rm) mroundOf mroundFrom mouts nm mfromHour mtoHour ns mfrom mto msort misFault mdeep mcoded mlines nl nc nF np ntr nb mbestCost nso nsi nit nsh nsf nss nrc mtraced mdealer mnumber mwhose msize misParted), (nr, iA G 14 fnr)] (fun r : Int32 => True)
set_option maxHeartbeats 4000000 in
set_option maxRecDepth 100000 in
theorem r_row (l : Launch) (G : GG) (h0 : Nat) (x1 : Int32) (x2 : Int32) (nw : Nat) (nk : Nat) (mhasKept : Int32) (nt : Nat) (mtaped : Int32) (nr : Nat) (rm : Nat) (mroundOf : Int32) (mroundFrom : Int32) (mouts : Int32) (nm : Nat) (mfromHour : Int32) (mtoHour : Int32) (ns : Nat) (mfrom : Int32) (mto : Int32) (msort : Int32) (misFault : Int32) (mdeep : Int32) (mcoded : Int32) (mlines : Int32) (nl : Nat) (nc : Nat) (nF : Nat) (np : Nat) (ntr : Nat) (nb : Nat) (mbestCost : Int32) (nso : Nat) (nsi : Nat) (nit : Nat) (nsh : Nat) (nsf : Nat) (nss : Nat) (nrc : Nat) (mtraced : Int32) (mdealer : Int32) (mnumber : Int32) (mwhose : Int32) (msize : Int32) (misParted : Int32) (fnr : Nat → Int32) (hrm : rm ≤ 7) : K_r_row l G h0 x1 x2 nw nk mhasKept nt mtaped nr rm mroundOf mroundFrom mouts nm mfromHour mtoHour ns mfrom mto msort misFault mdeep mcoded mlines nl nc nF np ntr nb mbestCost nso nsi nit nsh nsf nss nrc mtraced mdealer mnumber mwhose msize misParted fnr := by
  refine MP.start (by decide +kernel) (Nat.le_of_ble_eq_true rfl) ?_
  intro p e s m below meth c ls hC hK hP hD hl
  refine absQ (fun Q0 hQ0 => ?_)
  have hl : lv_has ls 3 [(0, .ref h0), (1, .int x1), (2, .int x2)] := hl
  refine Kan8 hC (fun hx hb hr hml hB hown hlocks hnm => ?_)
  refine lv_aload_n hx hb gX12_row_0.1 rfl (lv_at0 hl) ?_
  refine lv_iload_n hx hb gX12_row_0.2.1 rfl (lv_at1 hl) ?_
  refine lv_iload_n hx hb gX12_row_0.2.2.1 rfl (lv_at2 hl) ?_
  refine pV hC hK hl hP hD (m_isRow l G h0 x1 x2 nw nk mhasKept nt mtaped nr rm mroundOf mroundFrom mouts nm mfromHour mtoHour ns mfrom mto msort misFault mdeep mcoded mlines nl nc nF np ntr nb mbestCost nso nsi nit nsh nsf nss nrc mtraced mdealer mnumber mwhose msize misParted (hrm)) si_X12_333 [0] sm_0 fm_0 nd_0 rfl rfl rfl rfl rfl (Nat.le_of_ble_eq_true rfl) rm_3_2_3 ⟨by first | exact Nat.le_of_ble_eq_true rfl | exact Nat.zero_le _, by first | exact Nat.le_of_ble_eq_true rfl | exact Nat.zero_le _⟩ gX12_row_0.2.2.2.1 (Kors (Keqa fun a6222 => ?_) (Keqr ?_))
  · refine lv_if_eq (tgt := 22) hx hb gX12_row_0.2.2.2.2.1 (by decide) (fun c9 => absurd c9 (by decide)) (fun _ => ?_)
    obtain ⟨hrw1, hrw2⟩ := a6222
    obtain ⟨jr, hjr, rfl⟩ := Hs_nat (by omega) hrw1
    obtain ⟨jw, hjw, rfl⟩ := Wi_nat (N := 1) (by decide) hrw2
    refine lv_aload_n hx hb gX12_row_0.2.2.2.2.2.1 rfl (lv_at0 hl) ?_
    refine gf_X12_19 hC rfl hK hP 0 rfl rfl gX12_row_0.2.2.2.2.2.2.1 ?_
    refine lv_iconst (v := 2) hx hb gX12_row_0.2.2.2.2.2.2.2.1 (by decide) ?_
    refine lv_iload_n hx hb gX12_row_0.2.2.2.2.2.2.2.2.1 rfl (lv_at1 hl) ?_
    refine lv_imul hx hb gX12_row_0.2.2.2.2.2.2.2.2.2 ?_
    refine eqi (x1 := nI (2 * jr)) (nI_mul 2 jr) ?_
    refine lv_iload_n hx hb gX12_row_1.1 rfl (lv_at2 hl) ?_
    refine lv_iadd hx hb gX12_row_1.2.1 ?_
    refine eqi (x1 := nI (2 * jr + jw)) (nI_add (2 * jr) jw) ?_
    refine aldN hC hK hP 1 rfl (k := (2 * jr + jw)) (by omega) (Nat.le_of_ble_eq_true rfl) (v := fnr (2 * jr + jw)) rfl gX12_row_1.2.2.1 ?_
    refine lv_topi (fun x6223 ex6223 => ?_)
    refine lv_goto (tgt := 24) hx hb gX12_row_1.2.2.2.1 (by decide) ?_
    refine toQ hQ0 ?_
    exact RP (v := x6223) hC (trivial) rfl gX12_row_1.2.2.2.2.2
  · refine lv_if_eq (tgt := 22) hx hb gX12_row_0.2.2.2.2.1 (by decide) (fun _ => ?_) (fun c9 => absurd (by decide) c9)
    refine lv_bipush (v := (-9)) hx hb gX12_row_1.2.2.2.2.1 (by decide) ?_
    refine toQ hQ0 ?_
    exact RP (v := (-9)) hC (trivial) rfl gX12_row_1.2.2.2.2.2
def K_w_alterRow (l : Launch) (G : GG) (h0 : Nat) (x1 : Int32) (x2 : Int32) (x3 : Int32) (nw : Nat) (nk : Nat) (mhasKept : Int32) (nt : Nat) (mtaped : Int32) (nr : Nat) (rm : Nat) (mroundOf : Int32) (mroundFrom : Int32) (mouts : Int32) (nm : Nat) (mfromHour : Int32) (mtoHour : Int32) (ns : Nat) (mfrom : Int32) (mto : Int32) (msort : Int32) (misFault : Int32) (mdeep : Int32) (mcoded : Int32) (mlines : Int32) (nl : Nat) (nc : Nat) (nF : Nat) (np : Nat) (ntr : Nat) (nb : Nat) (mbestCost : Int32) (nso : Nat) (nsi : Nat) (nit : Nat) (nsh : Nat) (nsf : Nat) (nss : Nat) (nrc : Nat) (mtraced : Int32) (mdealer : Int32) (mnumber : Int32) (mwhose : Int32) (msize : Int32) (misParted : Int32) (fnr : Nat → Int32) : Prop := MI l G yX12_alterRow cX12_alterRow 5 (some .int) 3 0 0 [.ref h0, .int x1, .int x2, .int x3] [(h0, oX12 nw nk mhasKept nt mtaped nr (nI rm) mroundOf mroundFrom mouts nm mfromHour mtoHour ns mfrom mto msort misFault mdeep mcoded mlines nl nc nF np ntr nb mbestCost nso nsi nit nsh nsf nss nrc mtraced mdealer mnumber mwhose msize misParted), (nr, iA G 14 fnr)] (fun (r : Int32) (u : (Nat → Int32)) => (True)) (fun u : (Nat → Int32) => [(h0, oX12 nw nk mhasKept nt mtaped nr (nI rm) mroundOf mroundFrom mouts nm mfromHour mtoHour ns mfrom mto msort misFault mdeep mcoded mlines nl nc nF np ntr nb mbestCost nso nsi nit nsh nsf nss nrc mtraced mdealer mnumber mwhose msize misParted), (nr, iA G 14 u)])
set_option maxHeartbeats 4000000 in
set_option maxRecDepth 100000 in
theorem w_alterRow (l : Launch) (G : GG) (h0 : Nat) (x1 : Int32) (x2 : Int32) (x3 : Int32) (nw : Nat) (nk : Nat) (mhasKept : Int32) (nt : Nat) (mtaped : Int32) (nr : Nat) (rm : Nat) (mroundOf : Int32) (mroundFrom : Int32) (mouts : Int32) (nm : Nat) (mfromHour : Int32) (mtoHour : Int32) (ns : Nat) (mfrom : Int32) (mto : Int32) (msort : Int32) (misFault : Int32) (mdeep : Int32) (mcoded : Int32) (mlines : Int32) (nl : Nat) (nc : Nat) (nF : Nat) (np : Nat) (ntr : Nat) (nb : Nat) (mbestCost : Int32) (nso : Nat) (nsi : Nat) (nit : Nat) (nsh : Nat) (nsf : Nat) (nss : Nat) (nrc : Nat) (mtraced : Int32) (mdealer : Int32) (mnumber : Int32) (mwhose : Int32) (msize : Int32) (misParted : Int32) (fnr : Nat → Int32) (hrm : rm ≤ 7) : K_w_alterRow l G h0 x1 x2 x3 nw nk mhasKept nt mtaped nr rm mroundOf mroundFrom mouts nm mfromHour mtoHour ns mfrom mto msort misFault mdeep mcoded mlines nl nc nF np ntr nb mbestCost nso nsi nit nsh nsf nss nrc mtraced mdealer mnumber mwhose msize misParted fnr := by
  refine MI.start (by decide +kernel) (Nat.le_of_ble_eq_true rfl) ?_
  intro p e s m below meth c A ls hC hK hP hD hS hA hl
  refine absQ (fun Q0 hQ0 => ?_)
  have hl : lv_has ls 5 [(0, .ref h0), (1, .int x1), (2, .int x2), (3, .int x3)] := hl
  refine Kan8 hC (fun hx hb hr hml hB hown hlocks hnm => ?_)
  refine lv_aload_n hx hb gX12_alterRow_0.1 rfl (lv_at0 hl) ?_
  refine lv_iload_n hx hb gX12_alterRow_0.2.1 rfl (lv_at1 hl) ?_
  refine lv_iload_n hx hb gX12_alterRow_0.2.2.1 rfl (lv_at2 hl) ?_
  refine pV hC hK hl hP hD (m_isRow l G h0 x1 x2 nw nk mhasKept nt mtaped nr rm mroundOf mroundFrom mouts nm mfromHour mtoHour ns mfrom mto msort misFault mdeep mcoded mlines nl nc nF np ntr nb mbestCost nso nsi nit nsh nsf nss nrc mtraced mdealer mnumber mwhose msize misParted (hrm)) si_X12_333 [0] sm_0 fm_0 nd_0 rfl rfl rfl rfl rfl (Nat.le_of_ble_eq_true rfl) rm_3_2_3 ⟨by first | exact Nat.le_of_ble_eq_true rfl | exact Nat.zero_le _, by first | exact Nat.le_of_ble_eq_true rfl | exact Nat.zero_le _⟩ gX12_alterRow_0.2.2.2.1 (Kors (Keqa fun a6225 => ?_) (Keqr ?_))
  · refine lv_if_ne (tgt := 12) hx hb gX12_alterRow_0.2.2.2.2.1 (by decide) (fun _ => ?_) (fun c9 => absurd c9 (by decide))
    obtain ⟨hrw1, hrw2⟩ := a6225
    obtain ⟨jr, hjr, rfl⟩ := Hs_nat (by omega) hrw1
    obtain ⟨jw, hjw, rfl⟩ := Wi_nat (N := 1) (by decide) hrw2
    refine lv_aload_n hx hb gX12_alterRow_0.2.2.2.2.2.2.2.1 rfl (lv_at0 hl) ?_
    refine gf_X12_19 hC rfl hK hP 0 rfl rfl gX12_alterRow_0.2.2.2.2.2.2.2.2.1 ?_
    refine lv_iconst (v := 2) hx hb gX12_alterRow_0.2.2.2.2.2.2.2.2.2 (by decide) ?_
    refine lv_iload_n hx hb gX12_alterRow_1.1 rfl (lv_at1 hl) ?_
    refine lv_imul hx hb gX12_alterRow_1.2.1 ?_
    refine eqi (x1 := nI (2 * jr)) (nI_mul 2 jr) ?_
    refine lv_iload_n hx hb gX12_alterRow_1.2.2.1 rfl (lv_at2 hl) ?_
    refine lv_iadd hx hb gX12_alterRow_1.2.2.2.1 ?_
    refine eqi (x1 := nI (2 * jr + jw)) (nI_add (2 * jr) jw) ?_
    refine aldN hC hK hP 1 rfl (k := (2 * jr + jw)) (by omega) (Nat.le_of_ble_eq_true rfl) (v := fnr (2 * jr + jw)) rfl gX12_alterRow_1.2.2.2.2.1 ?_
    refine lv_topi (fun x6226 ex6226 => ?_)
    refine lv_istore (lv' := [(4, .int x6226), (0, .ref h0), (1, .int (nI jr)), (2, .int (nI jw)), (3, .int x3)]) hx hb gX12_alterRow_1.2.2.2.2.2.1 hl (by decide) rfl (fun ls hl => ?_)
    refine lv_aload_n hx hb gX12_alterRow_1.2.2.2.2.2.2.1 rfl (lv_at1 hl) ?_
    refine gf_X12_19 hC rfl hK hP 0 rfl rfl gX12_alterRow_1.2.2.2.2.2.2.2.1 ?_
    refine lv_iconst (v := 2) hx hb gX12_alterRow_1.2.2.2.2.2.2.2.2.1 (by decide) ?_
    refine lv_iload_n hx hb gX12_alterRow_1.2.2.2.2.2.2.2.2.2 rfl (lv_at2 hl) ?_
    refine lv_imul hx hb gX12_alterRow_2.1 ?_
    refine eqi (x1 := nI (2 * jr)) (nI_mul 2 jr) ?_
    refine lv_iload_n hx hb gX12_alterRow_2.2.1 rfl (lv_at3 hl) ?_
    refine lv_iadd hx hb gX12_alterRow_2.2.2.1 ?_
    refine eqi (x1 := nI (2 * jr + jw)) (nI_add (2 * jr) jw) ?_
    refine lv_iload_n hx hb gX12_alterRow_2.2.2.2.1 rfl (lv_at4 hl) ?_
    refine astN hC hK hP hD hS 1 (ws' := [(h0, oX12 nw nk mhasKept nt mtaped nr (nI rm) mroundOf mroundFrom mouts nm mfromHour mtoHour ns mfrom mto msort misFault mdeep mcoded mlines nl nc nF np ntr nb mbestCost nso nsi nit nsh nsf nss nrc mtraced mdealer mnumber mwhose msize misParted), (nr, iA G 14 (upd fnr (2 * jr + jw) x3))]) rfl (k := (2 * jr + jw)) (by omega) (Nat.le_of_ble_eq_true rfl) (rfl) gX12_alterRow_2.2.2.2.2.1 (fun H locs hP hD hS => ?_)
    refine lv_iload hx hb gX12_alterRow_2.2.2.2.2.2.1 (lv_at0 hl) ?_
    refine toQ hQ0 ?_
    exact RI (v := x6226) hC hP hD hS [0, 1] (upd fnr (2 * jr + jw) x3) rfl rfl (by decide) (trivial) rfl gX12_alterRow_2.2.2.2.2.2.2
  · refine lv_if_ne (tgt := 12) hx hb gX12_alterRow_0.2.2.2.2.1 (by decide) (fun c9 => absurd (by decide) c9) (fun _ => ?_)
    refine lv_bipush (v := (-9)) hx hb gX12_alterRow_0.2.2.2.2.2.1 (by decide) ?_
    refine toQ hQ0 ?_
    exact RI (v := (-9)) hC hP hD hS [0, 1] fnr rfl rfl (by decide) (trivial) rfl gX12_alterRow_0.2.2.2.2.2.2.1
def K_w_dropRow (l : Launch) (G : GG) (h0 : Nat) (nw : Nat) (nk : Nat) (mhasKept : Int32) (nt : Nat) (mtaped : Int32) (nr : Nat) (rm : Nat) (mroundOf : Int32) (mroundFrom : Int32) (mouts : Int32) (nm : Nat) (mfromHour : Int32) (mtoHour : Int32) (ns : Nat) (mfrom : Int32) (mto : Int32) (msort : Int32) (misFault : Int32) (mdeep : Int32) (mcoded : Int32) (mlines : Int32) (nl : Nat) (nc : Nat) (nF : Nat) (np : Nat) (ntr : Nat) (nb : Nat) (mbestCost : Int32) (nso : Nat) (nsi : Nat) (nit : Nat) (nsh : Nat) (nsf : Nat) (nss : Nat) (nrc : Nat) (mtraced : Int32) (mdealer : Int32) (mnumber : Int32) (mwhose : Int32) (msize : Int32) (misParted : Int32) : Prop := MI l G yX12_dropRow cX12_dropRow 1 (some .int) 1 0 0 [.ref h0] [(h0, oX12 nw nk mhasKept nt mtaped nr (nI rm) mroundOf mroundFrom mouts nm mfromHour mtoHour ns mfrom mto msort misFault mdeep mcoded mlines nl nc nF np ntr nb mbestCost nso nsi nit nsh nsf nss nrc mtraced mdealer mnumber mwhose msize misParted)] (fun (r : Int32) (u : Nat) => (True) ∧ (u ≤ 7)) (fun u : Nat => [(h0, oX12 nw nk mhasKept nt mtaped nr (nI u) mroundOf mroundFrom mouts nm mfromHour mtoHour ns mfrom mto msort misFault mdeep mcoded mlines nl nc nF np ntr nb mbestCost nso nsi nit nsh nsf nss nrc mtraced mdealer mnumber mwhose msize misParted)])
set_option maxHeartbeats 4000000 in
set_option maxRecDepth 100000 in
theorem w_dropRow (l : Launch) (G : GG) (h0 : Nat) (nw : Nat) (nk : Nat) (mhasKept : Int32) (nt : Nat) (mtaped : Int32) (nr : Nat) (rm : Nat) (mroundOf : Int32) (mroundFrom : Int32) (mouts : Int32) (nm : Nat) (mfromHour : Int32) (mtoHour : Int32) (ns : Nat) (mfrom : Int32) (mto : Int32) (msort : Int32) (misFault : Int32) (mdeep : Int32) (mcoded : Int32) (mlines : Int32) (nl : Nat) (nc : Nat) (nF : Nat) (np : Nat) (ntr : Nat) (nb : Nat) (mbestCost : Int32) (nso : Nat) (nsi : Nat) (nit : Nat) (nsh : Nat) (nsf : Nat) (nss : Nat) (nrc : Nat) (mtraced : Int32) (mdealer : Int32) (mnumber : Int32) (mwhose : Int32) (msize : Int32) (misParted : Int32) (hrm : rm ≤ 7) : K_w_dropRow l G h0 nw nk mhasKept nt mtaped nr rm mroundOf mroundFrom mouts nm mfromHour mtoHour ns mfrom mto msort misFault mdeep mcoded mlines nl nc nF np ntr nb mbestCost nso nsi nit nsh nsf nss nrc mtraced mdealer mnumber mwhose msize misParted := by
  refine MI.start (by decide +kernel) (Nat.le_of_ble_eq_true rfl) ?_
  intro p e s m below meth c A ls hC hK hP hD hS hA hl
  refine absQ (fun Q0 hQ0 => ?_)
  have hl : lv_has ls 1 [(0, .ref h0)] := hl
  refine Kan8 hC (fun hx hb hr hml hB hown hlocks hnm => ?_)
  refine lv_aload_n hx hb gX12_dropRow_0.1 rfl (lv_at0 hl) ?_
  refine gf_X12_327 hC rfl hK hP 0 rfl rfl gX12_dropRow_0.2.1 ?_
  refine lv_if_ne (tgt := 10) hx hb gX12_dropRow_0.2.2.1 (by decide) (fun c_4_6227 => ?_) (fun c_4_6227 => ?_)
  · have hrm1 := nI_nz c_4_6227
    refine lv_aload_n hx hb gX12_dropRow_0.2.2.2.2.2.1 rfl (lv_at0 hl) ?_
    refine lv_dup hx hb gX12_dropRow_0.2.2.2.2.2.2.1 rfl ?_
    refine gf_X12_327 hC rfl hK hP 0 rfl rfl gX12_dropRow_0.2.2.2.2.2.2.2.1 ?_
    refine lv_iconst (v := 1) hx hb gX12_dropRow_0.2.2.2.2.2.2.2.2.1 (by decide) ?_
    refine lv_isub hx hb gX12_dropRow_0.2.2.2.2.2.2.2.2.2 ?_
    refine eqi (x1 := nI (rm - 1)) (nI_sb (by omega)) ?_
    refine pf_X12_327 hC rfl hK hP hD hS 0 (ws' := [(h0, oX12 nw nk mhasKept nt mtaped nr (nI (rm - 1)) mroundOf mroundFrom mouts nm mfromHour mtoHour ns mfrom mto msort misFault mdeep mcoded mlines nl nc nF np ntr nb mbestCost nso nsi nit nsh nsf nss nrc mtraced mdealer mnumber mwhose msize misParted)]) rfl (Nat.le_of_ble_eq_true rfl) rfl rfl rfl gX12_dropRow_1.1 (fun H locs hP hD hS => ?_)
    refine lv_aload_n hx hb gX12_dropRow_1.2.1 rfl (lv_at0 hl) ?_
    refine gf_X12_327 hC rfl hK hP 0 rfl rfl gX12_dropRow_1.2.2.1 ?_
    refine toQ hQ0 ?_
    exact RI (v := nI (rm - 1)) hC hP hD hS [0] (rm - 1) rfl rfl (by decide) (⟨trivial, by omega⟩) rfl gX12_dropRow_1.2.2.2
  · refine lv_bipush (v := (-3)) hx hb gX12_dropRow_0.2.2.2.1 (by decide) ?_
    refine toQ hQ0 ?_
    exact RI (v := (-3)) hC hP hD hS [0] rm rfl rfl (by decide) (⟨trivial, by omega⟩) rfl gX12_dropRow_0.2.2.2.2.1
def K_r_judge (l : Launch) (G : GG) (h0 : Nat) (nw : Nat) (nk : Nat) (mhasKept : Int32) (nt : Nat) (mtaped : Int32) (nr : Nat) (rm : Nat) (mroundOf : Int32) (mroundFrom : Int32) (mouts : Int32) (nm : Nat) (mfromHour : Int32) (mtoHour : Int32) (ns : Nat) (mfrom : Int32) (mto : Int32) (msort : Int32) (misFault : Int32) (mdeep : Int32) (mcoded : Int32) (mlines : Int32) (nl : Nat) (nc : Nat) (nF : Nat) (np : Nat) (ntr : Nat) (nb : Nat) (mbestCost : Int32) (nso : Nat) (nsi : Nat) (nit : Nat) (nsh : Nat) (nsf : Nat) (nss : Nat) (nrc : Nat) (mtraced : Int32) (mdealer : Int32) (mnumber : Int32) (mwhose : Int32) (msize : Int32) (misParted : Int32) (fnw : Nat → Int32) (fnr : Nat → Int32) : Prop := MP l G yX12_judge cX12_judge 5 (some .int) 3 [.ref h0] [(h0, oX12 nw nk mhasKept nt mtaped nr (nI rm) mroundOf mroundFrom mouts nm mfromHour mtoHour ns mfrom mto msort misFault mdeep mcoded mlines nl nc nF np ntr nb mbestCost nso nsi nit nsh nsf nss nrc mtraced mdealer mnumber mwhose msize misParted), (nw, iA G 1662 fnw), (nr, iA G 14 fnr)] (fun r : Int32 => True)
set_option maxHeartbeats 4000000 in
set_option maxRecDepth 100000 in
theorem r_judge (l : Launch) (G : GG) (h0 : Nat) (nw : Nat) (nk : Nat) (mhasKept : Int32) (nt : Nat) (mtaped : Int32) (nr : Nat) (rm : Nat) (mroundOf : Int32) (mroundFrom : Int32) (mouts : Int32) (nm : Nat) (mfromHour : Int32) (mtoHour : Int32) (ns : Nat) (mfrom : Int32) (mto : Int32) (msort : Int32) (misFault : Int32) (mdeep : Int32) (mcoded : Int32) (mlines : Int32) (nl : Nat) (nc : Nat) (nF : Nat) (np : Nat) (ntr : Nat) (nb : Nat) (mbestCost : Int32) (nso : Nat) (nsi : Nat) (nit : Nat) (nsh : Nat) (nsf : Nat) (nss : Nat) (nrc : Nat) (mtraced : Int32) (mdealer : Int32) (mnumber : Int32) (mwhose : Int32) (msize : Int32) (misParted : Int32) (fnw : Nat → Int32) (fnr : Nat → Int32) (hrm : rm ≤ 7) (hN : NI fnw) : K_r_judge l G h0 nw nk mhasKept nt mtaped nr rm mroundOf mroundFrom mouts nm mfromHour mtoHour ns mfrom mto msort misFault mdeep mcoded mlines nl nc nF np ntr nb mbestCost nso nsi nit nsh nsf nss nrc mtraced mdealer mnumber mwhose msize misParted fnw fnr := by
  refine MP.start (by decide +kernel) (Nat.le_of_ble_eq_true rfl) ?_
  intro p e s m below meth c ls hC hK hP hD hl
  refine absQ (fun Q0 hQ0 => ?_)
  have hl : lv_has ls 5 [(0, .ref h0)] := hl
  refine Kan8 hC (fun hx hb hr hml hB hown hlocks hnm => ?_)
  obtain ⟨k11, hk11, ek11⟩ := NI.nat hN (i := 11) (B := 7) (by decide +kernel) (by decide)
  refine lv_aload_n hx hb gX12_judge_0.1 rfl (lv_at0 hl) ?_
  refine gf_X12_22 hC rfl hK hP 0 rfl rfl gX12_judge_0.2.1 ?_
  refine lv_if_ge (tgt := 10) hx hb gX12_judge_0.2.2.1 (by decide) (fun c_4_6228 => ?_) (fun c_4_6228 => ?_)
  · refine lv_iconst (v := 0) hx hb gX12_judge_0.2.2.2.2.2.1 (by decide) ?_
    refine lv_istore_n (lv' := [(1, .int 0), (0, .ref h0)]) hx hb gX12_judge_0.2.2.2.2.2.2.1 rfl hl (by decide) rfl (fun ls hl => ?_)
    refine lv_iconst (v := 0) hx hb gX12_judge_0.2.2.2.2.2.2.2.1 (by decide) ?_
    refine lv_istore_n (lv' := [(2, .int 0), (1, .int 0), (0, .ref h0)]) hx hb gX12_judge_0.2.2.2.2.2.2.2.2.1 rfl hl (by decide) rfl (fun ls hl => ?_)
    have keyP : ∀ (nP kP : Nat) (lf : Int32) (ls : Array Slot), kP + nP = k11 → lv_has ls 5 [(2, .int (nI kP)), (1, .int lf), (0, .ref h0)] → W p l e (RM 3 0 0) s m ([.ref h0] : List Value).toArray below meth c s.heap [] 0 0 Q0 (F0 m 14 ls []) := by
      intro nP
      induction nP with
      | zero =>
        intro kP lf ls hkP hl
        obtain rfl : k11 = kP := by omega
        have hl : lv_has ls 5 [(2, .int (nI k11)), (1, .int lf), (0, .ref h0)] := hl
        refine lv_iload_n hx hb gX12_judge_0.2.2.2.2.2.2.2.2.2 rfl (lv_at0 hl) ?_
        refine lv_aload_n hx hb gX12_judge_1.1 rfl (lv_at2 hl) ?_
        refine gf_X12_9 hC rfl hK hP 0 rfl rfl gX12_judge_1.2.1 ?_
        refine lv_bipush (v := 11) hx hb gX12_judge_1.2.2.1 (by decide) ?_
        refine ald hC hK hP 1 rfl (vin (by decide +kernel)) (k := 11) (by decide +kernel) (v := nI k11) (ek11) gX12_judge_1.2.2.2.1 ?_
        refine lv_icmp_ge (tgt := 42) hx hb gX12_judge_1.2.2.2.2.1 (by decide) (fun _ => ?_) (fun c9 => absurd (Int32.le_refl _) c9)
        refine lv_aload_n hx hb gX12_judge_2.2.2.2.2.2.2.1 rfl (lv_at2 hl) ?_
        refine gf_X12_330 hC rfl hK hP 0 rfl rfl gX12_judge_2.2.2.2.2.2.2.2.1 ?_
        refine lv_istore_n (lv' := [(2, .int mroundFrom), (1, .int lf), (0, .ref h0)]) hx hb gX12_judge_2.2.2.2.2.2.2.2.2.1 rfl hl (by decide) rfl (fun ls hl => ?_)
        refine lv_iconst (v := 0) hx hb gX12_judge_2.2.2.2.2.2.2.2.2.2 (by decide) ?_
        refine lv_istore_n (lv' := [(3, .int 0), (2, .int mroundFrom), (1, .int lf), (0, .ref h0)]) hx hb gX12_judge_3.1 rfl hl (by decide) rfl (fun ls hl => ?_)
        have keyQ : ∀ (nQ kQ : Nat) (lf2 : Int32) (ov9 : Int32) (ls : Array Slot), kQ + nQ = rm → lv_has ls 5 [(3, .int (nI kQ)), (2, .int ov9), (1, .int lf2), (0, .ref h0)] → W p l e (RM 3 0 0) s m ([.ref h0] : List Value).toArray below meth c s.heap [] 0 0 Q0 (F0 m 49 ls []) := by
          intro nQ
          induction nQ with
          | zero =>
            intro kQ lf2 ov9 ls hkQ hl
            obtain rfl : rm = kQ := by omega
            have hl : lv_has ls 5 [(3, .int (nI rm)), (2, .int ov9), (1, .int lf2), (0, .ref h0)] := hl
            refine lv_iload_n hx hb gX12_judge_3.2.1 rfl (lv_at0 hl) ?_
            refine lv_aload_n hx hb gX12_judge_3.2.2.1 rfl (lv_at3 hl) ?_
            refine gf_X12_327 hC rfl hK hP 0 rfl rfl gX12_judge_3.2.2.2.1 ?_
            refine lv_icmp_ge (tgt := 138) hx hb gX12_judge_3.2.2.2.2.1 (by decide) (fun _ => ?_) (fun c9 => absurd (Int32.le_refl _) c9)
            refine lv_aload_n hx hb gX12_judge_8.2.2.2.2.2.2.2.2.1 rfl (lv_at3 hl) ?_
            refine gf_X12_327 hC rfl hK hP 0 rfl rfl gX12_judge_8.2.2.2.2.2.2.2.2.2 ?_
            refine lv_aload_n hx hb gX12_judge_9.1 rfl (lv_at3 hl) ?_
            refine gf_X12_22 hC rfl hK hP 0 rfl rfl gX12_judge_9.2.1 ?_
            refine pS hC hK hl (m_bits l G mroundOf) si_X12_110 rfl rfl (Nat.le_of_ble_eq_true rfl) rm_3_1_3 ⟨by first | exact Nat.le_of_ble_eq_true rfl | exact Nat.zero_le _, by first | exact Nat.le_of_ble_eq_true rfl | exact Nat.zero_le _⟩ gX12_judge_9.2.2.1 (fun r6229 hr6229 => ?_)
            refine lv_icmp_ge (tgt := 161) hx hb gX12_judge_9.2.2.2.1 (by decide) (fun c_149_6230 => ?_) (fun c_149_6230 => ?_)
            · refine lv_iconst (v := 0) hx hb gX12_judge_9.2.2.2.2.2.2.2.2.2 (by decide) ?_
              refine toQ hQ0 ?_
              exact RP (v := 0) hC (trivial) rfl gX12_judge_10
            · refine lv_aload_n hx hb gX12_judge_9.2.2.2.2.1 rfl (lv_at3 hl) ?_
              refine gf_X12_327 hC rfl hK hP 0 rfl rfl gX12_judge_9.2.2.2.2.2.1 ?_
              refine lv_iconst (v := 1) hx hb gX12_judge_9.2.2.2.2.2.2.1 (by decide) ?_
              refine lv_iadd hx hb gX12_judge_9.2.2.2.2.2.2.2.1 ?_
              refine eqi (x1 := nI (rm + 1)) (nI_add rm 1) ?_
              refine lv_goto (tgt := 162) hx hb gX12_judge_9.2.2.2.2.2.2.2.2.1 (by decide) ?_
              refine toQ hQ0 ?_
              exact RP (v := nI (rm + 1)) hC (trivial) rfl gX12_judge_10
          | succ nQ ihQ =>
            intro kQ lf2 ov9 ls hkQ hl
            refine lv_iload_n hx hb gX12_judge_3.2.1 rfl (lv_at0 hl) ?_
            refine lv_aload_n hx hb gX12_judge_3.2.2.1 rfl (lv_at3 hl) ?_
            refine gf_X12_327 hC rfl hK hP 0 rfl rfl gX12_judge_3.2.2.2.1 ?_
            refine lv_icmp_ge (tgt := 138) hx hb gX12_judge_3.2.2.2.2.1 (by decide) (fun c9 => absurd c9 (nI_ge (a := kQ) (b := rm) (by omega) (by omega))) (fun _ => ?_)
            refine lv_aload_n hx hb gX12_judge_3.2.2.2.2.2.1 rfl (lv_at3 hl) ?_
            refine gf_X12_19 hC rfl hK hP 0 rfl rfl gX12_judge_3.2.2.2.2.2.2.1 ?_
            refine lv_iconst (v := 2) hx hb gX12_judge_3.2.2.2.2.2.2.2.1 (by decide) ?_
            refine lv_iload_n hx hb gX12_judge_3.2.2.2.2.2.2.2.2.1 rfl (lv_at0 hl) ?_
            refine lv_imul hx hb gX12_judge_3.2.2.2.2.2.2.2.2.2 ?_
            refine eqi (x1 := nI (2 * kQ)) (nI_mul 2 kQ) ?_
            refine aldN hC hK hP 2 rfl (k := (2 * kQ)) (by omega) (Nat.le_of_ble_eq_true rfl) (v := fnr (2 * kQ)) rfl gX12_judge_4.1 ?_
            refine lv_topi (fun x6231 ex6231 => ?_)
            refine lv_istore (lv' := [(4, .int x6231), (3, .int (nI kQ)), (2, .int ov9), (1, .int lf2), (0, .ref h0)]) hx hb gX12_judge_4.2.1 hl (by decide) rfl (fun ls hl => ?_)
            refine lv_iload hx hb gX12_judge_4.2.2.1 (lv_at0 hl) ?_
            refine lv_iconst (v := 0) hx hb gX12_judge_4.2.2.2.1 (by decide) ?_
            refine lv_bipush (v := 6) hx hb gX12_judge_4.2.2.2.2.1 (by decide) ?_
            refine pS hC hK hl (m_within l G x6231 0 6) si_X12_84 rfl rfl (Nat.le_of_ble_eq_true rfl) rm_3_1_3 ⟨by first | exact Nat.le_of_ble_eq_true rfl | exact Nat.zero_le _, by first | exact Nat.le_of_ble_eq_true rfl | exact Nat.zero_le _⟩ gX12_judge_4.2.2.2.2.2.1 (Kors (Keqa fun a6233 => ?_) (Keqa fun a6233 => ?_))
            · refine lv_if_eq (tgt := 87) hx hb gX12_judge_4.2.2.2.2.2.2.1 (by decide) (fun c9 => absurd c9 (by decide)) (fun _ => ?_)
              obtain ⟨jq, hjq, rfl⟩ := Wi_nat (N := 6) (by decide) a6233
              refine lv_iload_n hx hb gX12_judge_4.2.2.2.2.2.2.2.1 rfl (lv_at3 hl) ?_
              refine lv_iload hx hb gX12_judge_4.2.2.2.2.2.2.2.2.1 (lv_at0 hl) ?_
              refine pS hC hK hl (m_has l G lf2 (nI jq)) si_X12_99 rfl rfl (Nat.le_of_ble_eq_true rfl) rm_3_1_2 ⟨by first | exact Nat.le_of_ble_eq_true rfl | exact Nat.zero_le _, by first | exact Nat.le_of_ble_eq_true rfl | exact Nat.zero_le _⟩ gX12_judge_4.2.2.2.2.2.2.2.2.2 (Kors (Keqa fun a6235 => ?_) (Keqa fun a6235 => ?_))
              · refine lv_if_ne (tgt := 91) hx hb gX12_judge_5.1 (by decide) (fun _ => ?_) (fun c9 => absurd c9 (by decide))
                refine lv_iload_n hx hb gX12_judge_5.2.2.2.2.2.1 rfl (lv_at3 hl) ?_
                refine lv_iconst (v := 1) hx hb gX12_judge_5.2.2.2.2.2.2.1 (by decide) ?_
                refine lv_iload hx hb gX12_judge_5.2.2.2.2.2.2.2.1 (lv_at0 hl) ?_
                refine lv_ishl hx hb gX12_judge_5.2.2.2.2.2.2.2.2.1 ?_
                refine lv_ixor hx hb gX12_judge_5.2.2.2.2.2.2.2.2.2 ?_
                refine lv_istore_n (lv' := [(1, .int (lf2 ^^^ (1 <<< ((nI jq) &&& 31)))), (4, .int (nI jq)), (3, .int (nI kQ)), (2, .int ov9), (0, .ref h0)]) hx hb gX12_judge_6.1 rfl hl (by decide) rfl (fun ls hl => ?_)
                refine lv_iload_n hx hb gX12_judge_6.2.1 rfl (lv_at3 hl) ?_
                refine lv_aload_n hx hb gX12_judge_6.2.2.1 rfl (lv_at4 hl) ?_
                refine gf_X12_9 hC rfl hK hP 0 rfl rfl gX12_judge_6.2.2.2.1 ?_
                refine lv_sipush (v := 1648) hx hb gX12_judge_6.2.2.2.2.1 (by decide) ?_
                refine lv_iconst (v := 2) hx hb gX12_judge_6.2.2.2.2.2.1 (by decide) ?_
                refine lv_iload hx hb gX12_judge_6.2.2.2.2.2.2.1 (lv_at1 hl) ?_
                refine lv_imul hx hb gX12_judge_6.2.2.2.2.2.2.2.1 ?_
                refine eqi (x1 := nI (2 * jq)) (nI_mul 2 jq) ?_
                refine lv_iadd hx hb gX12_judge_6.2.2.2.2.2.2.2.2.1 ?_
                refine eqi (x1 := nI (1648 + 2 * jq)) (nI_add 1648 (2 * jq)) ?_
                refine aldN hC hK hP 1 rfl (k := (1648 + 2 * jq)) (by omega) (Nat.le_of_ble_eq_true rfl) (v := fnw (1648 + 2 * jq)) rfl gX12_judge_6.2.2.2.2.2.2.2.2.2 ?_
                refine lv_topi (fun x6236 ex6236 => ?_)
                refine lv_iadd hx hb gX12_judge_7.1 ?_
                refine lv_istore_n (lv' := [(2, .int (ov9 + x6236)), (1, .int (lf2 ^^^ (1 <<< ((nI jq) &&& 31)))), (4, .int (nI jq)), (3, .int (nI kQ)), (0, .ref h0)]) hx hb gX12_judge_7.2.1 rfl hl (by decide) rfl (fun ls hl => ?_)
                refine lv_aload_n hx hb gX12_judge_7.2.2.1 rfl (lv_at4 hl) ?_
                refine gf_X12_19 hC rfl hK hP 0 rfl rfl gX12_judge_7.2.2.2.1 ?_
                refine lv_iconst (v := 2) hx hb gX12_judge_7.2.2.2.2.1 (by decide) ?_
                refine lv_iload_n hx hb gX12_judge_7.2.2.2.2.2.1 rfl (lv_at3 hl) ?_
                refine lv_imul hx hb gX12_judge_7.2.2.2.2.2.2.1 ?_
                refine eqi (x1 := nI (2 * kQ)) (nI_mul 2 kQ) ?_
                refine lv_iconst (v := 1) hx hb gX12_judge_7.2.2.2.2.2.2.2.1 (by decide) ?_
                refine lv_iadd hx hb gX12_judge_7.2.2.2.2.2.2.2.2.1 ?_
                refine eqi (x1 := nI (2 * kQ + 1)) (nI_add (2 * kQ) 1) ?_
                refine aldN hC hK hP 2 rfl (k := (2 * kQ + 1)) (by omega) (Nat.le_of_ble_eq_true rfl) (v := fnr (2 * kQ + 1)) rfl gX12_judge_7.2.2.2.2.2.2.2.2.2 ?_
                refine lv_topi (fun x6237 ex6237 => ?_)
                refine lv_iload_n hx hb gX12_judge_8.1 rfl (lv_at0 hl) ?_
                refine lv_icmp_eq (tgt := 132) hx hb gX12_judge_8.2.1 (by decide) (fun c_125_6238 => ?_) (fun c_125_6238 => ?_)
                · refine lv_iinc (v := nI (kQ + 1)) (lv' := [(3, .int (nI (kQ + 1))), (2, .int (ov9 + x6236)), (1, .int (lf2 ^^^ (1 <<< ((nI jq) &&& 31)))), (4, .int (nI jq)), (0, .ref h0)]) hx hb gX12_judge_8.2.2.2.2.2.2.1 hl (k := 3) rfl (nI_1 _) (by decide) rfl (fun ls hl => ?_)
                  refine lv_goto (tgt := 49) hx hb gX12_judge_8.2.2.2.2.2.2.2.1 (by decide) ?_
                  exact ihQ (kQ + 1) (lf2 ^^^ (1 <<< ((nI jq) &&& 31))) (ov9 + x6236) _ (by omega) (lv_sub hl [0, 1, 2, 4] rfl)
                · refine lv_iload_n hx hb gX12_judge_8.2.2.1 rfl (lv_at3 hl) ?_
                  refine lv_iconst (v := 1) hx hb gX12_judge_8.2.2.2.1 (by decide) ?_
                  refine lv_iadd hx hb gX12_judge_8.2.2.2.2.1 ?_
                  refine eqi (x1 := nI (kQ + 1)) (nI_add kQ 1) ?_
                  refine toQ hQ0 ?_
                  exact RP (v := nI (kQ + 1)) hC (trivial) rfl gX12_judge_8.2.2.2.2.2.1
              · refine lv_if_ne (tgt := 91) hx hb gX12_judge_5.1 (by decide) (fun c9 => absurd (by decide) c9) (fun _ => ?_)
                refine lv_iload_n hx hb gX12_judge_5.2.1 rfl (lv_at1 hl) ?_
                refine lv_iconst (v := 1) hx hb gX12_judge_5.2.2.1 (by decide) ?_
                refine lv_iadd hx hb gX12_judge_5.2.2.2.1 ?_
                refine eqi (x1 := nI (kQ + 1)) (nI_add kQ 1) ?_
                refine toQ hQ0 ?_
                exact RP (v := nI (kQ + 1)) hC (trivial) rfl gX12_judge_5.2.2.2.2.1
            · refine lv_if_eq (tgt := 87) hx hb gX12_judge_4.2.2.2.2.2.2.1 (by decide) (fun _ => ?_) (fun c9 => absurd (by decide) c9)
              refine lv_iload_n hx hb gX12_judge_5.2.1 rfl (lv_at1 hl) ?_
              refine lv_iconst (v := 1) hx hb gX12_judge_5.2.2.1 (by decide) ?_
              refine lv_iadd hx hb gX12_judge_5.2.2.2.1 ?_
              refine eqi (x1 := nI (kQ + 1)) (nI_add kQ 1) ?_
              refine toQ hQ0 ?_
              exact RP (v := nI (kQ + 1)) hC (trivial) rfl gX12_judge_5.2.2.2.2.1
        exact keyQ rm 0 lf mroundFrom _ (by omega) (lv_sub hl [0, 1, 2, 3] rfl)
      | succ nP ihP =>
        intro kP lf ls hkP hl
        refine lv_iload_n hx hb gX12_judge_0.2.2.2.2.2.2.2.2.2 rfl (lv_at0 hl) ?_
        refine lv_aload_n hx hb gX12_judge_1.1 rfl (lv_at2 hl) ?_
        refine gf_X12_9 hC rfl hK hP 0 rfl rfl gX12_judge_1.2.1 ?_
        refine lv_bipush (v := 11) hx hb gX12_judge_1.2.2.1 (by decide) ?_
        refine ald hC hK hP 1 rfl (vin (by decide +kernel)) (k := 11) (by decide +kernel) (v := nI k11) (ek11) gX12_judge_1.2.2.2.1 ?_
        refine lv_icmp_ge (tgt := 42) hx hb gX12_judge_1.2.2.2.2.1 (by decide) (fun c9 => absurd c9 (nI_ge (a := kP) (b := k11) (by omega) (by omega))) (fun _ => ?_)
        refine lv_iload_n hx hb gX12_judge_1.2.2.2.2.2.1 rfl (lv_at1 hl) ?_
        refine lv_aload_n hx hb gX12_judge_1.2.2.2.2.2.2.1 rfl (lv_at2 hl) ?_
        refine gf_X12_22 hC rfl hK hP 0 rfl rfl gX12_judge_1.2.2.2.2.2.2.2.1 ?_
        refine lv_iconst (v := 1) hx hb gX12_judge_1.2.2.2.2.2.2.2.2.1 (by decide) ?_
        refine lv_iload_n hx hb gX12_judge_1.2.2.2.2.2.2.2.2.2 rfl (lv_at0 hl) ?_
        refine lv_ishl hx hb gX12_judge_2.1 ?_
        refine lv_iand hx hb gX12_judge_2.2.1 ?_
        refine lv_ior hx hb gX12_judge_2.2.2.1 ?_
        refine lv_istore_n (lv' := [(1, .int (lf ||| (mroundOf &&& (1 <<< ((nI kP) &&& 31))))), (2, .int (nI kP)), (0, .ref h0)]) hx hb gX12_judge_2.2.2.2.1 rfl hl (by decide) rfl (fun ls hl => ?_)
        refine lv_iinc (v := nI (kP + 1)) (lv' := [(2, .int (nI (kP + 1))), (1, .int (lf ||| (mroundOf &&& (1 <<< ((nI kP) &&& 31))))), (0, .ref h0)]) hx hb gX12_judge_2.2.2.2.2.1 hl (k := 1) rfl (nI_1 _) (by decide) rfl (fun ls hl => ?_)
        refine lv_goto (tgt := 14) hx hb gX12_judge_2.2.2.2.2.2.1 (by decide) ?_
        exact ihP (kP + 1) (lf ||| (mroundOf &&& (1 <<< ((nI kP) &&& 31)))) _ (by omega) (lv_sub hl [0, 1, 2] rfl)
    exact keyP k11 0 0 _ (by omega) (lv_sub hl [0, 1, 2] rfl)
  · refine lv_bipush (v := (-3)) hx hb gX12_judge_0.2.2.2.1 (by decide) ?_
    refine toQ hQ0 ?_
    exact RP (v := (-3)) hC (trivial) rfl gX12_judge_0.2.2.2.2.1
def K_w_sheet (l : Launch) (G : GG) (h0 : Nat) (x1 : Int32) (x2 : Int32) (x3 : Int32) (nw : Nat) (nk : Nat) (mhasKept : Int32) (nt : Nat) (mtaped : Int32) (nr : Nat) (mrowMany : Int32) (mroundOf : Int32) (mroundFrom : Int32) (mouts : Int32) (nm : Nat) (mfromHour : Int32) (mtoHour : Int32) (ns : Nat) (mfrom : Int32) (mto : Int32) (msort : Int32) (misFault : Int32) (mdeep : Int32) (mcoded : Int32) (mlines : Int32) (nl : Nat) (nc : Nat) (nF : Nat) (np : Nat) (ntr : Nat) (nb : Nat) (mbestCost : Int32) (nso : Nat) (nsi : Nat) (nit : Nat) (nsh : Nat) (nsf : Nat) (nss : Nat) (nrc : Nat) (mtraced : Int32) (mdealer : Int32) (mnumber : Int32) (mwhose : Int32) (msize : Int32) (misParted : Int32) (fnso : Nat → Int32) (fnsi : Nat → Int32) (fnit : Nat → Int32) : Prop := MI l G yX12_sheet cX12_sheet 5 (some .int) 3 0 0 [.ref h0, .int x1, .int x2, .int x3] [(h0, oX12 nw nk mhasKept nt mtaped nr mrowMany mroundOf mroundFrom mouts nm mfromHour mtoHour ns mfrom mto msort misFault mdeep mcoded mlines nl nc nF np ntr nb mbestCost nso nsi nit nsh nsf nss nrc mtraced mdealer mnumber mwhose msize misParted), (nso, iA G 4 fnso), (nsi, iA G 4 fnsi), (nit, iA G 160 fnit)] (fun (r : Int32) (u : (Nat → Int32) × (Nat → Int32) × (Nat → Int32)) => (r = ifc (Wi x1 0 3) (ifc (Wi x2 (-1) 4) (ifc (x2 < 0) 1 (ifc (x3 ≤ 40) (ifc (x3 < 0) (-14) 1) (-1))) (-1)) (-1)) ∧ (SZ u.2.1 ∧ (S0 x1 x2 → u.1 = upd fnso x1.toNatClampNeg x2 ∧ u.2.1 = upd fnsi x1.toNatClampNeg 0 ∧ ZQ fnit u.2.2 x1.toNatClampNeg) ∧ (S1 x1 x2 x3 → u.1 = upd fnso x1.toNatClampNeg x2 ∧ u.2.1 = upd fnsi x1.toNatClampNeg x3 ∧ ZR fnit u.2.2 x1.toNatClampNeg 40) ∧ (¬ S0 x1 x2 → ¬ S1 x1 x2 x3 → u.1 = fnso ∧ u.2.1 = fnsi ∧ u.2.2 = fnit))) (fun u : (Nat → Int32) × (Nat → Int32) × (Nat → Int32) => [(h0, oX12 nw nk mhasKept nt mtaped nr mrowMany mroundOf mroundFrom mouts nm mfromHour mtoHour ns mfrom mto msort misFault mdeep mcoded mlines nl nc nF np ntr nb mbestCost nso nsi nit nsh nsf nss nrc mtraced mdealer mnumber mwhose msize misParted), (nso, iA G 4 u.1), (nsi, iA G 4 u.2.1), (nit, iA G 160 u.2.2)])
set_option maxHeartbeats 4000000 in
set_option maxRecDepth 100000 in
theorem w_sheet (l : Launch) (G : GG) (h0 : Nat) (x1 : Int32) (x2 : Int32) (x3 : Int32) (nw : Nat) (nk : Nat) (mhasKept : Int32) (nt : Nat) (mtaped : Int32) (nr : Nat) (mrowMany : Int32) (mroundOf : Int32) (mroundFrom : Int32) (mouts : Int32) (nm : Nat) (mfromHour : Int32) (mtoHour : Int32) (ns : Nat) (mfrom : Int32) (mto : Int32) (msort : Int32) (misFault : Int32) (mdeep : Int32) (mcoded : Int32) (mlines : Int32) (nl : Nat) (nc : Nat) (nF : Nat) (np : Nat) (ntr : Nat) (nb : Nat) (mbestCost : Int32) (nso : Nat) (nsi : Nat) (nit : Nat) (nsh : Nat) (nsf : Nat) (nss : Nat) (nrc : Nat) (mtraced : Int32) (mdealer : Int32) (mnumber : Int32) (mwhose : Int32) (msize : Int32) (misParted : Int32) (fnso : Nat → Int32) (fnsi : Nat → Int32) (fnit : Nat → Int32) (hZ : SZ fnsi) : K_w_sheet l G h0 x1 x2 x3 nw nk mhasKept nt mtaped nr mrowMany mroundOf mroundFrom mouts nm mfromHour mtoHour ns mfrom mto msort misFault mdeep mcoded mlines nl nc nF np ntr nb mbestCost nso nsi nit nsh nsf nss nrc mtraced mdealer mnumber mwhose msize misParted fnso fnsi fnit := by
  refine MI.start (by decide +kernel) (Nat.le_of_ble_eq_true rfl) ?_
  intro p e s m below meth c A ls hC hK hP hD hS hA hl
  refine absQ (fun Q0 hQ0 => ?_)
  have hl : lv_has ls 5 [(0, .ref h0), (1, .int x1), (2, .int x2), (3, .int x3)] := hl
  refine Kan8 hC (fun hx hb hr hml hB hown hlocks hnm => ?_)
  refine lv_iload_n hx hb gX12_sheet_0.1 rfl (lv_at1 hl) ?_
  refine pS hC hK hl (m_isFour l G x1) si_X12_336 rfl rfl (Nat.le_of_ble_eq_true rfl) rm_3_2_1 ⟨by first | exact Nat.le_of_ble_eq_true rfl | exact Nat.zero_le _, by first | exact Nat.le_of_ble_eq_true rfl | exact Nat.zero_le _⟩ gX12_sheet_0.2.1 (Kors (Keqa fun a6240 => ?_) (Keqa fun a6240 => ?_))
  · refine lv_if_eq (tgt := 26) hx hb gX12_sheet_0.2.2.1 (by decide) (fun c9 => absurd c9 (by decide)) (fun _ => ?_)
    refine lv_iload_n hx hb gX12_sheet_0.2.2.2.1 rfl (lv_at2 hl) ?_
    refine lv_iconst (v := (-1)) hx hb gX12_sheet_0.2.2.2.2.1 (by decide) ?_
    refine lv_iconst (v := 4) hx hb gX12_sheet_0.2.2.2.2.2.1 (by decide) ?_
    refine pS hC hK hl (m_within l G x2 (-1) 4) si_X12_84 rfl rfl (Nat.le_of_ble_eq_true rfl) rm_3_1_3 ⟨by first | exact Nat.le_of_ble_eq_true rfl | exact Nat.zero_le _, by first | exact Nat.le_of_ble_eq_true rfl | exact Nat.zero_le _⟩ gX12_sheet_0.2.2.2.2.2.2.1 (Kors (Keqa fun a6242 => ?_) (Keqa fun a6242 => ?_))
    · refine lv_if_eq (tgt := 26) hx hb gX12_sheet_0.2.2.2.2.2.2.2.1 (by decide) (fun c9 => absurd c9 (by decide)) (fun _ => ?_)
      refine lv_iload_n hx hb gX12_sheet_0.2.2.2.2.2.2.2.2.1 rfl (lv_at2 hl) ?_
      refine lv_if_lt (tgt := 28) hx hb gX12_sheet_0.2.2.2.2.2.2.2.2.2 (by decide) (fun c_17_6243 => ?_) (fun c_17_6243 => ?_)
      · refine lv_iload_n hx hb gX12_sheet_1.2.2.2.2.2.1 rfl (lv_at2 hl) ?_
        refine lv_if_lt (tgt := 39) hx hb gX12_sheet_1.2.2.2.2.2.2.1 (by decide) (fun _ => ?_) (fun c9 => absurd (c_17_6243) c9)
        obtain ⟨jt, hjt, rfl⟩ := Wi_nat (N := 3) (by decide) a6240
        refine lv_aload_n hx hb gX12_sheet_2.2.1 rfl (lv_at0 hl) ?_
        refine gf_X12_63 hC rfl hK hP 0 rfl rfl gX12_sheet_2.2.2.1 ?_
        refine lv_iload_n hx hb gX12_sheet_2.2.2.2.1 rfl (lv_at1 hl) ?_
        refine lv_iload_n hx hb gX12_sheet_2.2.2.2.2.1 rfl (lv_at2 hl) ?_
        refine astN hC hK hP hD hS 1 (ws' := [(h0, oX12 nw nk mhasKept nt mtaped nr mrowMany mroundOf mroundFrom mouts nm mfromHour mtoHour ns mfrom mto msort misFault mdeep mcoded mlines nl nc nF np ntr nb mbestCost nso nsi nit nsh nsf nss nrc mtraced mdealer mnumber mwhose msize misParted), (nso, iA G 4 (upd fnso jt x2)), (nsi, iA G 4 fnsi), (nit, iA G 160 fnit)]) rfl (k := jt) (by omega) (Nat.le_of_ble_eq_true rfl) (rfl) gX12_sheet_2.2.2.2.2.2.1 (fun H locs hP hD hS => ?_)
        refine lv_aload_n hx hb gX12_sheet_2.2.2.2.2.2.2.1 rfl (lv_at0 hl) ?_
        refine gf_X12_66 hC rfl hK hP 0 rfl rfl gX12_sheet_2.2.2.2.2.2.2.2.1 ?_
        refine lv_iload_n hx hb gX12_sheet_2.2.2.2.2.2.2.2.2.1 rfl (lv_at1 hl) ?_
        refine lv_iload_n hx hb gX12_sheet_2.2.2.2.2.2.2.2.2.2 rfl (lv_at2 hl) ?_
        refine lv_if_ge (tgt := 59) hx hb gX12_sheet_3.1 (by decide) (fun c9 => absurd c9 (Int32.not_le.mpr c_17_6243)) (fun _ => ?_)
        refine lv_iconst (v := 0) hx hb gX12_sheet_3.2.1 (by decide) ?_
        refine lv_goto (tgt := 60) hx hb gX12_sheet_3.2.2.1 (by decide) ?_
        refine astN hC hK hP hD hS 2 (ws' := [(h0, oX12 nw nk mhasKept nt mtaped nr mrowMany mroundOf mroundFrom mouts nm mfromHour mtoHour ns mfrom mto msort misFault mdeep mcoded mlines nl nc nF np ntr nb mbestCost nso nsi nit nsh nsf nss nrc mtraced mdealer mnumber mwhose msize misParted), (nso, iA G 4 (upd fnso jt x2)), (nsi, iA G 4 (upd fnsi jt 0)), (nit, iA G 160 fnit)]) rfl (k := jt) (by omega) (Nat.le_of_ble_eq_true rfl) (rfl) gX12_sheet_3.2.2.2.2.1 (fun H locs hP hD hS => ?_)
        have hZ2 : SZ (upd fnsi jt 0) := SZ.zero hZ
        refine lv_iconst (v := 0) hx hb gX12_sheet_3.2.2.2.2.2.1 (by decide) ?_
        refine lv_istore (lv' := [(4, .int 0), (0, .ref h0), (1, .int (nI jt)), (2, .int x2), (3, .int x3)]) hx hb gX12_sheet_3.2.2.2.2.2.2.1 hl (by decide) rfl (fun ls hl => ?_)
        have keyP : ∀ (nP kP : Nat) (vI : Nat → Int32) (H : Heap) (locs : List Loc) (ls : Array Slot), kP + nP = 40 → (ZR fnit vI jt kP) → va_PD G A [(h0, oX12 nw nk mhasKept nt mtaped nr mrowMany mroundOf mroundFrom mouts nm mfromHour mtoHour ns mfrom mto msort misFault mdeep mcoded mlines nl nc nF np ntr nb mbestCost nso nsi nit nsh nsf nss nrc mtraced mdealer mnumber mwhose msize misParted), (nso, iA G 4 (upd fnso jt x2)), (nsi, iA G 4 (upd fnsi jt 0)), (nit, iA G 160 vI)] H → va_S A s.heap H locs → lv_has ls 5 [(4, .int (nI kP)), (0, .ref h0), (1, .int (nI jt)), (2, .int x2), (3, .int x3)] → W p l e (RM 3 0 0) s m ([.ref h0, .int (nI jt), .int x2, .int x3] : List Value).toArray below meth c H locs 0 0 Q0 (F0 m 64 ls []) := by
          intro nP
          induction nP with
          | zero =>
            intro kP vI H locs ls hkP hzr hPD hS hl
            refine Kan2 hPD (fun hP hD => ?_)
            obtain rfl : 40 = kP := by omega
            have hl : lv_has ls 5 [(4, .int 40), (0, .ref h0), (1, .int (nI jt)), (2, .int x2), (3, .int x3)] := hl
            refine lv_iload hx hb gX12_sheet_3.2.2.2.2.2.2.2.1 (lv_at0 hl) ?_
            refine lv_bipush (v := 40) hx hb gX12_sheet_3.2.2.2.2.2.2.2.2.1 (by decide) ?_
            refine lv_icmp_ge (tgt := 90) hx hb gX12_sheet_3.2.2.2.2.2.2.2.2.2 (by decide) (fun _ => ?_) (fun c9 => absurd (by decide) c9)
            refine lv_iconst (v := 1) hx hb gX12_sheet_5.2.1 (by decide) ?_
            refine toQ hQ0 ?_
            exact RI (v := 1) hC hP hD hS [0, 1, 2, 3] (upd fnso jt x2, upd fnsi jt 0, vI) rfl rfl (by decide) (⟨(by first | rfl | (simp only [ifc_t hZ, ifc_t a6240, ifc_t a6242, ifc_t c_17_6243, ifc_t (q := x2 < 0) c_17_6243]; done) | (simp only [ifc_t hZ, ifc_t a6240, ifc_t a6242, ifc_t c_17_6243, ifc_t (q := x2 < 0) c_17_6243]; rfl)), ⟨by assumption, ⟨fun _ => (by rw [nI_clamp (n := jt) (by omega)]; exact ⟨rfl, rfl, hzr.zq⟩), fun h9 => absurd c_17_6243 h9.2.2.1, fun h9 _ => absurd ⟨a6240, a6242, c_17_6243⟩ h9⟩⟩⟩) rfl gX12_sheet_5.2.2
          | succ nP ihP =>
            intro kP vI H locs ls hkP hzr hPD hS hl
            refine Kan2 hPD (fun hP hD => ?_)
            refine lv_iload hx hb gX12_sheet_3.2.2.2.2.2.2.2.1 (lv_at0 hl) ?_
            refine lv_bipush (v := 40) hx hb gX12_sheet_3.2.2.2.2.2.2.2.2.1 (by decide) ?_
            refine lv_icmp_ge (tgt := 90) hx hb gX12_sheet_3.2.2.2.2.2.2.2.2.2 (by decide) (fun c9 => absurd c9 (nI_ge (a := kP) (b := 40) (by omega) (by omega))) (fun _ => ?_)
            refine lv_aload_n hx hb gX12_sheet_4.1 rfl (lv_at1 hl) ?_
            refine gf_X12_69 hC rfl hK hP 0 rfl rfl gX12_sheet_4.2.1 ?_
            refine lv_bipush (v := 40) hx hb gX12_sheet_4.2.2.1 (by decide) ?_
            refine lv_iload_n hx hb gX12_sheet_4.2.2.2.1 rfl (lv_at2 hl) ?_
            refine lv_imul hx hb gX12_sheet_4.2.2.2.2.1 ?_
            refine eqi (x1 := nI (40 * jt)) (nI_mul 40 jt) ?_
            refine lv_iload hx hb gX12_sheet_4.2.2.2.2.2.1 (lv_at0 hl) ?_
            refine lv_iadd hx hb gX12_sheet_4.2.2.2.2.2.2.1 ?_
            refine eqi (x1 := nI (40 * jt + kP)) (nI_add (40 * jt) kP) ?_
            refine lv_iconst (v := 0) hx hb gX12_sheet_4.2.2.2.2.2.2.2.1 (by decide) ?_
            refine astN hC hK hP hD hS 3 (ws' := [(h0, oX12 nw nk mhasKept nt mtaped nr mrowMany mroundOf mroundFrom mouts nm mfromHour mtoHour ns mfrom mto msort misFault mdeep mcoded mlines nl nc nF np ntr nb mbestCost nso nsi nit nsh nsf nss nrc mtraced mdealer mnumber mwhose msize misParted), (nso, iA G 4 (upd fnso jt x2)), (nsi, iA G 4 (upd fnsi jt 0)), (nit, iA G 160 (upd vI (40 * jt + kP) 0))]) rfl (k := (40 * jt + kP)) (by omega) (Nat.le_of_ble_eq_true rfl) (rfl) gX12_sheet_4.2.2.2.2.2.2.2.2.1 (fun H locs hP hD hS => ?_)
            refine lv_iinc (v := nI (kP + 1)) (lv' := [(4, .int (nI (kP + 1))), (0, .ref h0), (1, .int (nI jt)), (2, .int x2), (3, .int x3)]) hx hb gX12_sheet_4.2.2.2.2.2.2.2.2.2 hl (k := 0) rfl (nI_1 _) (by decide) rfl (fun ls hl => ?_)
            refine lv_goto (tgt := 64) hx hb gX12_sheet_5.1 (by decide) ?_
            exact ihP (kP + 1) (upd vI (40 * jt + kP) 0) _ _ _ (by omega) (by first | assumption | exact Or.inl rfl | exact Or.inr rfl | exact ZR.zero | exact ZR.next hzr (by omega)) (And.intro hP hD) hS (lv_sub hl [0, 1, 2, 3, 4] rfl)
        exact keyP 40 0 fnit _ _ _ (by omega) (by first | assumption | exact Or.inl rfl | exact Or.inr rfl | exact ZR.zero | exact ZR.next hzr (by omega)) (And.intro hP hD) hS (lv_sub hl [0, 1, 2, 3, 4] rfl)
      · refine lv_iload_n hx hb gX12_sheet_1.1 rfl (lv_at3 hl) ?_
        refine lv_bipush (v := 40) hx hb gX12_sheet_1.2.1 (by decide) ?_
        refine lv_icmp_le (tgt := 28) hx hb gX12_sheet_1.2.2.1 (by decide) (fun c_23_6244 => ?_) (fun c_23_6244 => ?_)
        · refine lv_iload_n hx hb gX12_sheet_1.2.2.2.2.2.1 rfl (lv_at2 hl) ?_
          refine lv_if_lt (tgt := 39) hx hb gX12_sheet_1.2.2.2.2.2.2.1 (by decide) (fun c9 => absurd c9 (c_17_6243)) (fun _ => ?_)
          refine lv_iload_n hx hb gX12_sheet_1.2.2.2.2.2.2.2.1 rfl (lv_at3 hl) ?_
          refine lv_if_ge (tgt := 39) hx hb gX12_sheet_1.2.2.2.2.2.2.2.2.1 (by decide) (fun c_33_6245 => ?_) (fun c_33_6245 => ?_)
          · obtain ⟨jt, hjt, rfl⟩ := Wi_nat (N := 3) (by decide) a6240
            refine lv_aload_n hx hb gX12_sheet_2.2.1 rfl (lv_at0 hl) ?_
            refine gf_X12_63 hC rfl hK hP 0 rfl rfl gX12_sheet_2.2.2.1 ?_
            refine lv_iload_n hx hb gX12_sheet_2.2.2.2.1 rfl (lv_at1 hl) ?_
            refine lv_iload_n hx hb gX12_sheet_2.2.2.2.2.1 rfl (lv_at2 hl) ?_
            refine astN hC hK hP hD hS 1 (ws' := [(h0, oX12 nw nk mhasKept nt mtaped nr mrowMany mroundOf mroundFrom mouts nm mfromHour mtoHour ns mfrom mto msort misFault mdeep mcoded mlines nl nc nF np ntr nb mbestCost nso nsi nit nsh nsf nss nrc mtraced mdealer mnumber mwhose msize misParted), (nso, iA G 4 (upd fnso jt x2)), (nsi, iA G 4 fnsi), (nit, iA G 160 fnit)]) rfl (k := jt) (by omega) (Nat.le_of_ble_eq_true rfl) (rfl) gX12_sheet_2.2.2.2.2.2.1 (fun H locs hP hD hS => ?_)
            refine lv_aload_n hx hb gX12_sheet_2.2.2.2.2.2.2.1 rfl (lv_at0 hl) ?_
            refine gf_X12_66 hC rfl hK hP 0 rfl rfl gX12_sheet_2.2.2.2.2.2.2.2.1 ?_
            refine lv_iload_n hx hb gX12_sheet_2.2.2.2.2.2.2.2.2.1 rfl (lv_at1 hl) ?_
            refine lv_iload_n hx hb gX12_sheet_2.2.2.2.2.2.2.2.2.2 rfl (lv_at2 hl) ?_
            refine lv_if_ge (tgt := 59) hx hb gX12_sheet_3.1 (by decide) (fun _ => ?_) (fun c9 => absurd (Int32.not_lt.mp c_17_6243) c9)
            refine lv_iload_n hx hb gX12_sheet_3.2.2.2.1 rfl (lv_at3 hl) ?_
            refine astN hC hK hP hD hS 2 (ws' := [(h0, oX12 nw nk mhasKept nt mtaped nr mrowMany mroundOf mroundFrom mouts nm mfromHour mtoHour ns mfrom mto msort misFault mdeep mcoded mlines nl nc nF np ntr nb mbestCost nso nsi nit nsh nsf nss nrc mtraced mdealer mnumber mwhose msize misParted), (nso, iA G 4 (upd fnso jt x2)), (nsi, iA G 4 (upd fnsi jt x3)), (nit, iA G 160 fnit)]) rfl (k := jt) (by omega) (Nat.le_of_ble_eq_true rfl) (rfl) gX12_sheet_3.2.2.2.2.1 (fun H locs hP hD hS => ?_)
            have hZ2 : SZ (upd fnsi jt x3) := SZ.set hZ (Int32.not_lt.mpr c_33_6245) c_23_6244
            refine lv_iconst (v := 0) hx hb gX12_sheet_3.2.2.2.2.2.1 (by decide) ?_
            refine lv_istore (lv' := [(4, .int 0), (0, .ref h0), (1, .int (nI jt)), (2, .int x2), (3, .int x3)]) hx hb gX12_sheet_3.2.2.2.2.2.2.1 hl (by decide) rfl (fun ls hl => ?_)
            have keyP : ∀ (nP kP : Nat) (vI : Nat → Int32) (H : Heap) (locs : List Loc) (ls : Array Slot), kP + nP = 40 → (ZR fnit vI jt kP) → va_PD G A [(h0, oX12 nw nk mhasKept nt mtaped nr mrowMany mroundOf mroundFrom mouts nm mfromHour mtoHour ns mfrom mto msort misFault mdeep mcoded mlines nl nc nF np ntr nb mbestCost nso nsi nit nsh nsf nss nrc mtraced mdealer mnumber mwhose msize misParted), (nso, iA G 4 (upd fnso jt x2)), (nsi, iA G 4 (upd fnsi jt x3)), (nit, iA G 160 vI)] H → va_S A s.heap H locs → lv_has ls 5 [(4, .int (nI kP)), (0, .ref h0), (1, .int (nI jt)), (2, .int x2), (3, .int x3)] → W p l e (RM 3 0 0) s m ([.ref h0, .int (nI jt), .int x2, .int x3] : List Value).toArray below meth c H locs 0 0 Q0 (F0 m 64 ls []) := by
              intro nP
              induction nP with
              | zero =>
                intro kP vI H locs ls hkP hzr hPD hS hl
                refine Kan2 hPD (fun hP hD => ?_)
                obtain rfl : 40 = kP := by omega
                have hl : lv_has ls 5 [(4, .int 40), (0, .ref h0), (1, .int (nI jt)), (2, .int x2), (3, .int x3)] := hl
                refine lv_iload hx hb gX12_sheet_3.2.2.2.2.2.2.2.1 (lv_at0 hl) ?_
                refine lv_bipush (v := 40) hx hb gX12_sheet_3.2.2.2.2.2.2.2.2.1 (by decide) ?_
                refine lv_icmp_ge (tgt := 90) hx hb gX12_sheet_3.2.2.2.2.2.2.2.2.2 (by decide) (fun _ => ?_) (fun c9 => absurd (by decide) c9)
                refine lv_iconst (v := 1) hx hb gX12_sheet_5.2.1 (by decide) ?_
                refine toQ hQ0 ?_
                exact RI (v := 1) hC hP hD hS [0, 1, 2, 3] (upd fnso jt x2, upd fnsi jt x3, vI) rfl rfl (by decide) (⟨(by first | rfl | (simp only [ifc_t hZ, ifc_t a6240, ifc_t a6242, ifc_f c_17_6243, ifc_t c_23_6244, ifc_t c_33_6245, ifc_f (q := x2 < 0) c_17_6243, ifc_f (q := x3 < 0) (Int32.not_lt.mpr c_33_6245)]; done) | (simp only [ifc_t hZ, ifc_t a6240, ifc_t a6242, ifc_f c_17_6243, ifc_t c_23_6244, ifc_t c_33_6245, ifc_f (q := x2 < 0) c_17_6243, ifc_f (q := x3 < 0) (Int32.not_lt.mpr c_33_6245)]; rfl)), ⟨by assumption, ⟨fun h9 => absurd h9.2.2 c_17_6243, fun _ => (by rw [nI_clamp (n := jt) (by omega)]; exact ⟨rfl, rfl, hzr⟩), fun _ h9 => absurd ⟨a6240, a6242, c_17_6243, c_23_6244, (Int32.not_lt.mpr c_33_6245)⟩ h9⟩⟩⟩) rfl gX12_sheet_5.2.2
              | succ nP ihP =>
                intro kP vI H locs ls hkP hzr hPD hS hl
                refine Kan2 hPD (fun hP hD => ?_)
                refine lv_iload hx hb gX12_sheet_3.2.2.2.2.2.2.2.1 (lv_at0 hl) ?_
                refine lv_bipush (v := 40) hx hb gX12_sheet_3.2.2.2.2.2.2.2.2.1 (by decide) ?_
                refine lv_icmp_ge (tgt := 90) hx hb gX12_sheet_3.2.2.2.2.2.2.2.2.2 (by decide) (fun c9 => absurd c9 (nI_ge (a := kP) (b := 40) (by omega) (by omega))) (fun _ => ?_)
                refine lv_aload_n hx hb gX12_sheet_4.1 rfl (lv_at1 hl) ?_
                refine gf_X12_69 hC rfl hK hP 0 rfl rfl gX12_sheet_4.2.1 ?_
                refine lv_bipush (v := 40) hx hb gX12_sheet_4.2.2.1 (by decide) ?_
                refine lv_iload_n hx hb gX12_sheet_4.2.2.2.1 rfl (lv_at2 hl) ?_
                refine lv_imul hx hb gX12_sheet_4.2.2.2.2.1 ?_
                refine eqi (x1 := nI (40 * jt)) (nI_mul 40 jt) ?_
                refine lv_iload hx hb gX12_sheet_4.2.2.2.2.2.1 (lv_at0 hl) ?_
                refine lv_iadd hx hb gX12_sheet_4.2.2.2.2.2.2.1 ?_
                refine eqi (x1 := nI (40 * jt + kP)) (nI_add (40 * jt) kP) ?_
                refine lv_iconst (v := 0) hx hb gX12_sheet_4.2.2.2.2.2.2.2.1 (by decide) ?_
                refine astN hC hK hP hD hS 3 (ws' := [(h0, oX12 nw nk mhasKept nt mtaped nr mrowMany mroundOf mroundFrom mouts nm mfromHour mtoHour ns mfrom mto msort misFault mdeep mcoded mlines nl nc nF np ntr nb mbestCost nso nsi nit nsh nsf nss nrc mtraced mdealer mnumber mwhose msize misParted), (nso, iA G 4 (upd fnso jt x2)), (nsi, iA G 4 (upd fnsi jt x3)), (nit, iA G 160 (upd vI (40 * jt + kP) 0))]) rfl (k := (40 * jt + kP)) (by omega) (Nat.le_of_ble_eq_true rfl) (rfl) gX12_sheet_4.2.2.2.2.2.2.2.2.1 (fun H locs hP hD hS => ?_)
                refine lv_iinc (v := nI (kP + 1)) (lv' := [(4, .int (nI (kP + 1))), (0, .ref h0), (1, .int (nI jt)), (2, .int x2), (3, .int x3)]) hx hb gX12_sheet_4.2.2.2.2.2.2.2.2.2 hl (k := 0) rfl (nI_1 _) (by decide) rfl (fun ls hl => ?_)
                refine lv_goto (tgt := 64) hx hb gX12_sheet_5.1 (by decide) ?_
                exact ihP (kP + 1) (upd vI (40 * jt + kP) 0) _ _ _ (by omega) (by first | assumption | exact Or.inl rfl | exact Or.inr rfl | exact ZR.zero | exact ZR.next hzr (by omega)) (And.intro hP hD) hS (lv_sub hl [0, 1, 2, 3, 4] rfl)
            exact keyP 40 0 fnit _ _ _ (by omega) (by first | assumption | exact Or.inl rfl | exact Or.inr rfl | exact ZR.zero | exact ZR.next hzr (by omega)) (And.intro hP hD) hS (lv_sub hl [0, 1, 2, 3, 4] rfl)
          · refine lv_bipush (v := (-14)) hx hb gX12_sheet_1.2.2.2.2.2.2.2.2.2 (by decide) ?_
            refine toQ hQ0 ?_
            exact RI (v := (-14)) hC hP hD hS [0, 1, 2, 3] (fnso, fnsi, fnit) rfl rfl (by decide) (⟨(by first | rfl | (simp only [ifc_t hZ, ifc_t a6240, ifc_t a6242, ifc_f c_17_6243, ifc_t c_23_6244, ifc_f c_33_6245, ifc_f (q := x2 < 0) c_17_6243, ifc_t (q := x3 < 0) (Int32.not_le.mp c_33_6245)]; done) | (simp only [ifc_t hZ, ifc_t a6240, ifc_t a6242, ifc_f c_17_6243, ifc_t c_23_6244, ifc_f c_33_6245, ifc_f (q := x2 < 0) c_17_6243, ifc_t (q := x3 < 0) (Int32.not_le.mp c_33_6245)]; rfl)), ⟨hZ, ⟨fun h9 => absurd h9.2.2 c_17_6243, fun h9 => absurd (Int32.not_le.mp c_33_6245) h9.2.2.2.2, fun _ _ => ⟨rfl, rfl, rfl⟩⟩⟩⟩) rfl gX12_sheet_2.1
        · refine lv_iconst (v := (-1)) hx hb gX12_sheet_1.2.2.2.1 (by decide) ?_
          refine toQ hQ0 ?_
          exact RI (v := (-1)) hC hP hD hS [0, 1, 2, 3] (fnso, fnsi, fnit) rfl rfl (by decide) (⟨(by first | rfl | (simp only [ifc_t hZ, ifc_t a6240, ifc_t a6242, ifc_f c_17_6243, ifc_f c_23_6244, ifc_f (q := x2 < 0) c_17_6243]; done) | (simp only [ifc_t hZ, ifc_t a6240, ifc_t a6242, ifc_f c_17_6243, ifc_f c_23_6244, ifc_f (q := x2 < 0) c_17_6243]; rfl)), ⟨hZ, ⟨fun h9 => absurd h9.2.2 c_17_6243, fun h9 => absurd h9.2.2.2.1 c_23_6244, fun _ _ => ⟨rfl, rfl, rfl⟩⟩⟩⟩) rfl gX12_sheet_1.2.2.2.2.1
    · refine lv_if_eq (tgt := 26) hx hb gX12_sheet_0.2.2.2.2.2.2.2.1 (by decide) (fun _ => ?_) (fun c9 => absurd (by decide) c9)
      refine lv_iconst (v := (-1)) hx hb gX12_sheet_1.2.2.2.1 (by decide) ?_
      refine toQ hQ0 ?_
      exact RI (v := (-1)) hC hP hD hS [0, 1, 2, 3] (fnso, fnsi, fnit) rfl rfl (by decide) (⟨(by first | rfl | (simp only [ifc_t hZ, ifc_t a6240, ifc_f a6242]; done) | (simp only [ifc_t hZ, ifc_t a6240, ifc_f a6242]; rfl)), ⟨hZ, ⟨fun h9 => absurd h9.2.1 a6242, fun h9 => absurd h9.2.1 a6242, fun _ _ => ⟨rfl, rfl, rfl⟩⟩⟩⟩) rfl gX12_sheet_1.2.2.2.2.1
  · refine lv_if_eq (tgt := 26) hx hb gX12_sheet_0.2.2.1 (by decide) (fun _ => ?_) (fun c9 => absurd (by decide) c9)
    refine lv_iconst (v := (-1)) hx hb gX12_sheet_1.2.2.2.1 (by decide) ?_
    refine toQ hQ0 ?_
    exact RI (v := (-1)) hC hP hD hS [0, 1, 2, 3] (fnso, fnsi, fnit) rfl rfl (by decide) (⟨(by first | rfl | (simp only [ifc_t hZ, ifc_f a6240]; done) | (simp only [ifc_t hZ, ifc_f a6240]; rfl)), ⟨hZ, ⟨fun h9 => absurd h9.1 a6240, fun h9 => absurd h9.1 a6240, fun _ _ => ⟨rfl, rfl, rfl⟩⟩⟩⟩) rfl gX12_sheet_1.2.2.2.2.1
def K_w_put (l : Launch) (G : GG) (h0 : Nat) (x1 : Int32) (x2 : Int32) (x3 : Int32) (nw : Nat) (nk : Nat) (mhasKept : Int32) (nt : Nat) (mtaped : Int32) (nr : Nat) (mrowMany : Int32) (mroundOf : Int32) (mroundFrom : Int32) (mouts : Int32) (nm : Nat) (mfromHour : Int32) (mtoHour : Int32) (ns : Nat) (mfrom : Int32) (mto : Int32) (msort : Int32) (misFault : Int32) (mdeep : Int32) (mcoded : Int32) (mlines : Int32) (nl : Nat) (nc : Nat) (nF : Nat) (np : Nat) (ntr : Nat) (nb : Nat) (mbestCost : Int32) (nso : Nat) (nsi : Nat) (nit : Nat) (nsh : Nat) (nsf : Nat) (nss : Nat) (nrc : Nat) (mtraced : Int32) (mdealer : Int32) (mnumber : Int32) (mwhose : Int32) (msize : Int32) (misParted : Int32) (fnso : Nat → Int32) (fnsi : Nat → Int32) (fnit : Nat → Int32) : Prop := MI l G yX12_put cX12_put 4 (some .int) 3 0 0 [.ref h0, .int x1, .int x2, .int x3] [(h0, oX12 nw nk mhasKept nt mtaped nr mrowMany mroundOf mroundFrom mouts nm mfromHour mtoHour ns mfrom mto msort misFault mdeep mcoded mlines nl nc nF np ntr nb mbestCost nso nsi nit nsh nsf nss nrc mtraced mdealer mnumber mwhose msize misParted), (nso, iA G 4 fnso), (nsi, iA G 4 fnsi), (nit, iA G 160 fnit)] (fun (r : Int32) (u : (Nat → Int32)) => (r = ifc (Wi x1 0 3) (ifc (fnso x1.toNatClampNeg < 0) (-11) (ifc (Wi x2 0 (fnsi x1.toNatClampNeg - 1)) 1 (-12))) (-1)) ∧ (∀ i : Nat, u i = ifc (Wi x1 0 3) (ifc (fnso x1.toNatClampNeg < 0) (fnit i) (ifc (Wi x2 0 (fnsi x1.toNatClampNeg - 1)) (upd fnit (40 * x1.toNatClampNeg + x2.toNatClampNeg) (NARW (fnso x1.toNatClampNeg) x3) i) (fnit i))) (fnit i))) (fun u : (Nat → Int32) => [(h0, oX12 nw nk mhasKept nt mtaped nr mrowMany mroundOf mroundFrom mouts nm mfromHour mtoHour ns mfrom mto msort misFault mdeep mcoded mlines nl nc nF np ntr nb mbestCost nso nsi nit nsh nsf nss nrc mtraced mdealer mnumber mwhose msize misParted), (nso, iA G 4 fnso), (nsi, iA G 4 fnsi), (nit, iA G 160 u)])
set_option maxHeartbeats 4000000 in
set_option maxRecDepth 100000 in
theorem w_put (l : Launch) (G : GG) (h0 : Nat) (x1 : Int32) (x2 : Int32) (x3 : Int32) (nw : Nat) (nk : Nat) (mhasKept : Int32) (nt : Nat) (mtaped : Int32) (nr : Nat) (mrowMany : Int32) (mroundOf : Int32) (mroundFrom : Int32) (mouts : Int32) (nm : Nat) (mfromHour : Int32) (mtoHour : Int32) (ns : Nat) (mfrom : Int32) (mto : Int32) (msort : Int32) (misFault : Int32) (mdeep : Int32) (mcoded : Int32) (mlines : Int32) (nl : Nat) (nc : Nat) (nF : Nat) (np : Nat) (ntr : Nat) (nb : Nat) (mbestCost : Int32) (nso : Nat) (nsi : Nat) (nit : Nat) (nsh : Nat) (nsf : Nat) (nss : Nat) (nrc : Nat) (mtraced : Int32) (mdealer : Int32) (mnumber : Int32) (mwhose : Int32) (msize : Int32) (misParted : Int32) (fnso : Nat → Int32) (fnsi : Nat → Int32) (fnit : Nat → Int32) (hZ : SZ fnsi) : K_w_put l G h0 x1 x2 x3 nw nk mhasKept nt mtaped nr mrowMany mroundOf mroundFrom mouts nm mfromHour mtoHour ns mfrom mto msort misFault mdeep mcoded mlines nl nc nF np ntr nb mbestCost nso nsi nit nsh nsf nss nrc mtraced mdealer mnumber mwhose msize misParted fnso fnsi fnit := by
  refine MI.start (by decide +kernel) (Nat.le_of_ble_eq_true rfl) ?_
  intro p e s m below meth c A ls hC hK hP hD hS hA hl
  refine absQ (fun Q0 hQ0 => ?_)
  have hl : lv_has ls 4 [(0, .ref h0), (1, .int x1), (2, .int x2), (3, .int x3)] := hl
  refine Kan8 hC (fun hx hb hr hml hB hown hlocks hnm => ?_)
  refine lv_iload_n hx hb gX12_put_0.1 rfl (lv_at1 hl) ?_
  refine pS hC hK hl (m_isFour l G x1) si_X12_336 rfl rfl (Nat.le_of_ble_eq_true rfl) rm_3_2_1 ⟨by first | exact Nat.le_of_ble_eq_true rfl | exact Nat.zero_le _, by first | exact Nat.le_of_ble_eq_true rfl | exact Nat.zero_le _⟩ gX12_put_0.2.1 (Kors (Keqa fun a6247 => ?_) (Keqa fun a6247 => ?_))
  · refine lv_if_ne (tgt := 9) hx hb gX12_put_0.2.2.1 (by decide) (fun _ => ?_) (fun c9 => absurd c9 (by decide))
    obtain ⟨jt, hjt, rfl⟩ := Wi3 a6247
    refine lv_aload_n hx hb gX12_put_0.2.2.2.2.2.1 rfl (lv_at0 hl) ?_
    refine gf_X12_63 hC rfl hK hP 0 rfl rfl gX12_put_0.2.2.2.2.2.2.1 ?_
    refine lv_iload_n hx hb gX12_put_0.2.2.2.2.2.2.2.1 rfl (lv_at1 hl) ?_
    refine aldN hC hK hP 1 rfl (k := jt) (by omega) (Nat.le_of_ble_eq_true rfl) (v := fnso jt) rfl gX12_put_0.2.2.2.2.2.2.2.2.1 ?_
    refine lv_if_ge (tgt := 21) hx hb gX12_put_0.2.2.2.2.2.2.2.2.2 (by decide) (fun c_15_6248 => ?_) (fun c_15_6248 => ?_)
    · refine lv_iload_n hx hb gX12_put_1.2.2.1 rfl (lv_at2 hl) ?_
      refine lv_iconst (v := 0) hx hb gX12_put_1.2.2.2.1 (by decide) ?_
      refine lv_aload_n hx hb gX12_put_1.2.2.2.2.1 rfl (lv_at0 hl) ?_
      refine gf_X12_66 hC rfl hK hP 0 rfl rfl gX12_put_1.2.2.2.2.2.1 ?_
      refine lv_iload_n hx hb gX12_put_1.2.2.2.2.2.2.1 rfl (lv_at1 hl) ?_
      refine aldN hC hK hP 2 rfl (k := jt) (by omega) (Nat.le_of_ble_eq_true rfl) (v := fnsi jt) rfl gX12_put_1.2.2.2.2.2.2.2.1 ?_
      refine lv_iconst (v := 1) hx hb gX12_put_1.2.2.2.2.2.2.2.2.1 (by decide) ?_
      refine lv_isub hx hb gX12_put_1.2.2.2.2.2.2.2.2.2 ?_
      refine pS hC hK hl (m_within l G x2 0 ((fnsi jt) - 1)) si_X12_84 rfl rfl (Nat.le_of_ble_eq_true rfl) rm_3_1_3 ⟨by first | exact Nat.le_of_ble_eq_true rfl | exact Nat.zero_le _, by first | exact Nat.le_of_ble_eq_true rfl | exact Nat.zero_le _⟩ gX12_put_2.1 (Kors (Keqa fun a6250 => ?_) (Keqa fun a6250 => ?_))
      · refine lv_if_ne (tgt := 40) hx hb gX12_put_2.2.1 (by decide) (fun _ => ?_) (fun c9 => absurd c9 (by decide))
        obtain ⟨ji, hji, rfl⟩ := SZ.at hZ (i := jt) (by omega) rfl a6250
        refine lv_aload_n hx hb gX12_put_2.2.2.2.2.1 rfl (lv_at0 hl) ?_
        refine gf_X12_69 hC rfl hK hP 0 rfl rfl gX12_put_2.2.2.2.2.2.1 ?_
        refine lv_bipush (v := 40) hx hb gX12_put_2.2.2.2.2.2.2.1 (by decide) ?_
        refine lv_iload_n hx hb gX12_put_2.2.2.2.2.2.2.2.1 rfl (lv_at1 hl) ?_
        refine lv_imul hx hb gX12_put_2.2.2.2.2.2.2.2.2.1 ?_
        refine eqi (x1 := nI (40 * jt)) (nI_mul 40 jt) ?_
        refine lv_iload_n hx hb gX12_put_2.2.2.2.2.2.2.2.2.2 rfl (lv_at2 hl) ?_
        refine lv_iadd hx hb gX12_put_3.1 ?_
        refine eqi (x1 := nI (40 * jt + ji)) (nI_add (40 * jt) ji) ?_
        refine lv_aload_n hx hb gX12_put_3.2.1 rfl (lv_at0 hl) ?_
        refine gf_X12_63 hC rfl hK hP 0 rfl rfl gX12_put_3.2.2.1 ?_
        refine lv_iload_n hx hb gX12_put_3.2.2.2.1 rfl (lv_at1 hl) ?_
        refine aldN hC hK hP 1 rfl (k := jt) (by omega) (Nat.le_of_ble_eq_true rfl) (v := fnso jt) rfl gX12_put_3.2.2.2.2.1 ?_
        refine lv_if_ne (tgt := 64) hx hb gX12_put_3.2.2.2.2.2.1 (by decide) (fun c_56_6251 => ?_) (fun c_56_6251 => ?_)
        · refine lv_aload_n hx hb gX12_put_3.2.2.2.2.2.2.2.2.2 rfl (lv_at0 hl) ?_
          refine gf_X12_63 hC rfl hK hP 0 rfl rfl gX12_put_4.1 ?_
          refine lv_iload_n hx hb gX12_put_4.2.1 rfl (lv_at1 hl) ?_
          refine aldN hC hK hP 1 rfl (k := jt) (by omega) (Nat.le_of_ble_eq_true rfl) (v := fnso jt) rfl gX12_put_4.2.2.1 ?_
          refine lv_iconst (v := 1) hx hb gX12_put_4.2.2.2.1 (by decide) ?_
          refine lv_icmp_ne (tgt := 79) hx hb gX12_put_4.2.2.2.2.1 (by decide) (fun c_71_6252 => ?_) (fun c_71_6252 => ?_)
          · refine lv_aload_n hx hb gX12_put_4.2.2.2.2.2.2.2.2.1 rfl (lv_at0 hl) ?_
            refine gf_X12_63 hC rfl hK hP 0 rfl rfl gX12_put_4.2.2.2.2.2.2.2.2.2 ?_
            refine lv_iload_n hx hb gX12_put_5.1 rfl (lv_at1 hl) ?_
            refine aldN hC hK hP 1 rfl (k := jt) (by omega) (Nat.le_of_ble_eq_true rfl) (v := fnso jt) rfl gX12_put_5.2.1 ?_
            refine lv_iconst (v := 4) hx hb gX12_put_5.2.2.1 (by decide) ?_
            refine lv_icmp_ne (tgt := 101) hx hb gX12_put_5.2.2.2.1 (by decide) (fun c_86_6253 => ?_) (fun c_86_6253 => ?_)
            · refine lv_iload_n hx hb gX12_put_6.1 rfl (lv_at3 hl) ?_
              refine astN hC hK hP hD hS 3 (ws' := [(h0, oX12 nw nk mhasKept nt mtaped nr mrowMany mroundOf mroundFrom mouts nm mfromHour mtoHour ns mfrom mto msort misFault mdeep mcoded mlines nl nc nF np ntr nb mbestCost nso nsi nit nsh nsf nss nrc mtraced mdealer mnumber mwhose msize misParted), (nso, iA G 4 fnso), (nsi, iA G 4 fnsi), (nit, iA G 160 (upd fnit (40 * jt + ji) x3))]) rfl (k := (40 * jt + ji)) (by omega) (Nat.le_of_ble_eq_true rfl) (rfl) gX12_put_6.2.1 (fun H locs hP hD hS => ?_)
              refine lv_iconst (v := 1) hx hb gX12_put_6.2.2.1 (by decide) ?_
              refine toQ hQ0 ?_
              exact RI (v := 1) hC hP hD hS [0, 1, 2, 3] (upd fnit (40 * jt + ji) x3) rfl rfl (by decide) (⟨(by first | rfl | (simp only [nI_clamp (n := jt) (by omega), nI_clamp (n := ji) (by omega), ifc_t hZ, ifc_t a6247, ifc_t c_15_6248, ifc_t a6250, ifc_f c_56_6251, ifc_f c_71_6252, ifc_f c_86_6253, ifc_f (q := (fnso jt) < 0) (Int32.not_lt.mpr c_15_6248)]; done) | (simp only [nI_clamp (n := jt) (by omega), nI_clamp (n := ji) (by omega), ifc_t hZ, ifc_t a6247, ifc_t c_15_6248, ifc_t a6250, ifc_f c_56_6251, ifc_f c_71_6252, ifc_f c_86_6253, ifc_f (q := (fnso jt) < 0) (Int32.not_lt.mpr c_15_6248)]; rfl)), (fun i => by simp only [nI_clamp (n := jt) (by omega), nI_clamp (n := ji) (by omega), ifc_t hZ, ifc_t a6247, ifc_t c_15_6248, ifc_t a6250, ifc_f c_56_6251, ifc_f c_71_6252, ifc_f c_86_6253, ifc_f (q := (fnso jt) < 0) (Int32.not_lt.mpr c_15_6248)]; exact congrArg (fun z9 => upd fnit (40 * jt + ji) z9 i) (show x3 = NARW (fnso jt) x3 from by unfold NARW; first | (simp only [ifc_t hZ, ifc_t a6247, ifc_t c_15_6248, ifc_t a6250, ifc_f c_56_6251, ifc_f c_71_6252, ifc_f c_86_6253]; done) | (simp only [ifc_t hZ, ifc_t a6247, ifc_t c_15_6248, ifc_t a6250, ifc_f c_56_6251, ifc_f c_71_6252, ifc_f c_86_6253]; rfl)))⟩) rfl gX12_put_6.2.2.2
            · refine lv_iload_n hx hb gX12_put_5.2.2.2.2.1 rfl (lv_at3 hl) ?_
              refine lv_if_eq (tgt := 97) hx hb gX12_put_5.2.2.2.2.2.1 (by decide) (fun c_90_6254 => ?_) (fun c_90_6254 => ?_)
              · refine lv_iconst (v := 0) hx hb gX12_put_5.2.2.2.2.2.2.2.2.1 (by decide) ?_
                refine lv_goto (tgt := 102) hx hb gX12_put_5.2.2.2.2.2.2.2.2.2 (by decide) ?_
                refine astN hC hK hP hD hS 3 (ws' := [(h0, oX12 nw nk mhasKept nt mtaped nr mrowMany mroundOf mroundFrom mouts nm mfromHour mtoHour ns mfrom mto msort misFault mdeep mcoded mlines nl nc nF np ntr nb mbestCost nso nsi nit nsh nsf nss nrc mtraced mdealer mnumber mwhose msize misParted), (nso, iA G 4 fnso), (nsi, iA G 4 fnsi), (nit, iA G 160 (upd fnit (40 * jt + ji) 0))]) rfl (k := (40 * jt + ji)) (by omega) (Nat.le_of_ble_eq_true rfl) (rfl) gX12_put_6.2.1 (fun H locs hP hD hS => ?_)
                refine lv_iconst (v := 1) hx hb gX12_put_6.2.2.1 (by decide) ?_
                refine toQ hQ0 ?_
                exact RI (v := 1) hC hP hD hS [0, 1, 2, 3] (upd fnit (40 * jt + ji) 0) rfl rfl (by decide) (⟨(by first | rfl | (simp only [nI_clamp (n := jt) (by omega), nI_clamp (n := ji) (by omega), ifc_t hZ, ifc_t a6247, ifc_t c_15_6248, ifc_t a6250, ifc_f c_56_6251, ifc_f c_71_6252, ifc_t c_86_6253, ifc_t c_90_6254, ifc_f (q := (fnso jt) < 0) (Int32.not_lt.mpr c_15_6248)]; done) | (simp only [nI_clamp (n := jt) (by omega), nI_clamp (n := ji) (by omega), ifc_t hZ, ifc_t a6247, ifc_t c_15_6248, ifc_t a6250, ifc_f c_56_6251, ifc_f c_71_6252, ifc_t c_86_6253, ifc_t c_90_6254, ifc_f (q := (fnso jt) < 0) (Int32.not_lt.mpr c_15_6248)]; rfl)), (fun i => by simp only [nI_clamp (n := jt) (by omega), nI_clamp (n := ji) (by omega), ifc_t hZ, ifc_t a6247, ifc_t c_15_6248, ifc_t a6250, ifc_f c_56_6251, ifc_f c_71_6252, ifc_t c_86_6253, ifc_t c_90_6254, ifc_f (q := (fnso jt) < 0) (Int32.not_lt.mpr c_15_6248)]; exact congrArg (fun z9 => upd fnit (40 * jt + ji) z9 i) (show 0 = NARW (fnso jt) x3 from by unfold NARW; first | (simp only [ifc_t hZ, ifc_t a6247, ifc_t c_15_6248, ifc_t a6250, ifc_f c_56_6251, ifc_f c_71_6252, ifc_t c_86_6253, ifc_t c_90_6254, ifc_f (q := fnso jt = 0) (by rw [c_86_6253]; decide), ifc_f (q := fnso jt = 1) (by rw [c_86_6253]; decide)]; done) | (simp only [ifc_t hZ, ifc_t a6247, ifc_t c_15_6248, ifc_t a6250, ifc_f c_56_6251, ifc_f c_71_6252, ifc_t c_86_6253, ifc_t c_90_6254, ifc_f (q := fnso jt = 0) (by rw [c_86_6253]; decide), ifc_f (q := fnso jt = 1) (by rw [c_86_6253]; decide)]; rfl)))⟩) rfl gX12_put_6.2.2.2
              · refine lv_iconst (v := 1) hx hb gX12_put_5.2.2.2.2.2.2.1 (by decide) ?_
                refine lv_goto (tgt := 102) hx hb gX12_put_5.2.2.2.2.2.2.2.1 (by decide) ?_
                refine astN hC hK hP hD hS 3 (ws' := [(h0, oX12 nw nk mhasKept nt mtaped nr mrowMany mroundOf mroundFrom mouts nm mfromHour mtoHour ns mfrom mto msort misFault mdeep mcoded mlines nl nc nF np ntr nb mbestCost nso nsi nit nsh nsf nss nrc mtraced mdealer mnumber mwhose msize misParted), (nso, iA G 4 fnso), (nsi, iA G 4 fnsi), (nit, iA G 160 (upd fnit (40 * jt + ji) 1))]) rfl (k := (40 * jt + ji)) (by omega) (Nat.le_of_ble_eq_true rfl) (rfl) gX12_put_6.2.1 (fun H locs hP hD hS => ?_)
                refine lv_iconst (v := 1) hx hb gX12_put_6.2.2.1 (by decide) ?_
                refine toQ hQ0 ?_
                exact RI (v := 1) hC hP hD hS [0, 1, 2, 3] (upd fnit (40 * jt + ji) 1) rfl rfl (by decide) (⟨(by first | rfl | (simp only [nI_clamp (n := jt) (by omega), nI_clamp (n := ji) (by omega), ifc_t hZ, ifc_t a6247, ifc_t c_15_6248, ifc_t a6250, ifc_f c_56_6251, ifc_f c_71_6252, ifc_t c_86_6253, ifc_f c_90_6254, ifc_f (q := (fnso jt) < 0) (Int32.not_lt.mpr c_15_6248)]; done) | (simp only [nI_clamp (n := jt) (by omega), nI_clamp (n := ji) (by omega), ifc_t hZ, ifc_t a6247, ifc_t c_15_6248, ifc_t a6250, ifc_f c_56_6251, ifc_f c_71_6252, ifc_t c_86_6253, ifc_f c_90_6254, ifc_f (q := (fnso jt) < 0) (Int32.not_lt.mpr c_15_6248)]; rfl)), (fun i => by simp only [nI_clamp (n := jt) (by omega), nI_clamp (n := ji) (by omega), ifc_t hZ, ifc_t a6247, ifc_t c_15_6248, ifc_t a6250, ifc_f c_56_6251, ifc_f c_71_6252, ifc_t c_86_6253, ifc_f c_90_6254, ifc_f (q := (fnso jt) < 0) (Int32.not_lt.mpr c_15_6248)]; exact congrArg (fun z9 => upd fnit (40 * jt + ji) z9 i) (show 1 = NARW (fnso jt) x3 from by unfold NARW; first | (simp only [ifc_t hZ, ifc_t a6247, ifc_t c_15_6248, ifc_t a6250, ifc_f c_56_6251, ifc_f c_71_6252, ifc_t c_86_6253, ifc_f c_90_6254, ifc_f (q := fnso jt = 0) (by rw [c_86_6253]; decide), ifc_f (q := fnso jt = 1) (by rw [c_86_6253]; decide)]; done) | (simp only [ifc_t hZ, ifc_t a6247, ifc_t c_15_6248, ifc_t a6250, ifc_f c_56_6251, ifc_f c_71_6252, ifc_t c_86_6253, ifc_f c_90_6254, ifc_f (q := fnso jt = 0) (by rw [c_86_6253]; decide), ifc_f (q := fnso jt = 1) (by rw [c_86_6253]; decide)]; rfl)))⟩) rfl gX12_put_6.2.2.2
          · refine lv_iload_n hx hb gX12_put_4.2.2.2.2.2.1 rfl (lv_at3 hl) ?_
            refine lv_i2s hx hb gX12_put_4.2.2.2.2.2.2.1 rfl ?_
            refine lv_goto (tgt := 102) hx hb gX12_put_4.2.2.2.2.2.2.2.1 (by decide) ?_
            refine astN hC hK hP hD hS 3 (ws' := [(h0, oX12 nw nk mhasKept nt mtaped nr mrowMany mroundOf mroundFrom mouts nm mfromHour mtoHour ns mfrom mto msort misFault mdeep mcoded mlines nl nc nF np ntr nb mbestCost nso nsi nit nsh nsf nss nrc mtraced mdealer mnumber mwhose msize misParted), (nso, iA G 4 fnso), (nsi, iA G 4 fnsi), (nit, iA G 160 (upd fnit (40 * jt + ji) x3.toInt16.toInt32))]) rfl (k := (40 * jt + ji)) (by omega) (Nat.le_of_ble_eq_true rfl) (rfl) gX12_put_6.2.1 (fun H locs hP hD hS => ?_)
            refine lv_iconst (v := 1) hx hb gX12_put_6.2.2.1 (by decide) ?_
            refine toQ hQ0 ?_
            exact RI (v := 1) hC hP hD hS [0, 1, 2, 3] (upd fnit (40 * jt + ji) x3.toInt16.toInt32) rfl rfl (by decide) (⟨(by first | rfl | (simp only [nI_clamp (n := jt) (by omega), nI_clamp (n := ji) (by omega), ifc_t hZ, ifc_t a6247, ifc_t c_15_6248, ifc_t a6250, ifc_f c_56_6251, ifc_t c_71_6252, ifc_f (q := (fnso jt) < 0) (Int32.not_lt.mpr c_15_6248)]; done) | (simp only [nI_clamp (n := jt) (by omega), nI_clamp (n := ji) (by omega), ifc_t hZ, ifc_t a6247, ifc_t c_15_6248, ifc_t a6250, ifc_f c_56_6251, ifc_t c_71_6252, ifc_f (q := (fnso jt) < 0) (Int32.not_lt.mpr c_15_6248)]; rfl)), (fun i => by simp only [nI_clamp (n := jt) (by omega), nI_clamp (n := ji) (by omega), ifc_t hZ, ifc_t a6247, ifc_t c_15_6248, ifc_t a6250, ifc_f c_56_6251, ifc_t c_71_6252, ifc_f (q := (fnso jt) < 0) (Int32.not_lt.mpr c_15_6248)]; exact congrArg (fun z9 => upd fnit (40 * jt + ji) z9 i) (show x3.toInt16.toInt32 = NARW (fnso jt) x3 from by unfold NARW; first | (simp only [ifc_t hZ, ifc_t a6247, ifc_t c_15_6248, ifc_t a6250, ifc_f c_56_6251, ifc_t c_71_6252, ifc_f (q := fnso jt = 0) (by rw [c_71_6252]; decide), ifc_f (q := fnso jt = 4) (by rw [c_71_6252]; decide)]; done) | (simp only [ifc_t hZ, ifc_t a6247, ifc_t c_15_6248, ifc_t a6250, ifc_f c_56_6251, ifc_t c_71_6252, ifc_f (q := fnso jt = 0) (by rw [c_71_6252]; decide), ifc_f (q := fnso jt = 4) (by rw [c_71_6252]; decide)]; rfl)))⟩) rfl gX12_put_6.2.2.2
        · refine lv_iload_n hx hb gX12_put_3.2.2.2.2.2.2.1 rfl (lv_at3 hl) ?_
          refine lv_i2b hx hb gX12_put_3.2.2.2.2.2.2.2.1 rfl ?_
          refine lv_goto (tgt := 102) hx hb gX12_put_3.2.2.2.2.2.2.2.2.1 (by decide) ?_
          refine astN hC hK hP hD hS 3 (ws' := [(h0, oX12 nw nk mhasKept nt mtaped nr mrowMany mroundOf mroundFrom mouts nm mfromHour mtoHour ns mfrom mto msort misFault mdeep mcoded mlines nl nc nF np ntr nb mbestCost nso nsi nit nsh nsf nss nrc mtraced mdealer mnumber mwhose msize misParted), (nso, iA G 4 fnso), (nsi, iA G 4 fnsi), (nit, iA G 160 (upd fnit (40 * jt + ji) x3.toInt8.toInt32))]) rfl (k := (40 * jt + ji)) (by omega) (Nat.le_of_ble_eq_true rfl) (rfl) gX12_put_6.2.1 (fun H locs hP hD hS => ?_)
          refine lv_iconst (v := 1) hx hb gX12_put_6.2.2.1 (by decide) ?_
          refine toQ hQ0 ?_
          exact RI (v := 1) hC hP hD hS [0, 1, 2, 3] (upd fnit (40 * jt + ji) x3.toInt8.toInt32) rfl rfl (by decide) (⟨(by first | rfl | (simp only [nI_clamp (n := jt) (by omega), nI_clamp (n := ji) (by omega), ifc_t hZ, ifc_t a6247, ifc_t c_15_6248, ifc_t a6250, ifc_t c_56_6251, ifc_f (q := (fnso jt) < 0) (Int32.not_lt.mpr c_15_6248)]; done) | (simp only [nI_clamp (n := jt) (by omega), nI_clamp (n := ji) (by omega), ifc_t hZ, ifc_t a6247, ifc_t c_15_6248, ifc_t a6250, ifc_t c_56_6251, ifc_f (q := (fnso jt) < 0) (Int32.not_lt.mpr c_15_6248)]; rfl)), (fun i => by simp only [nI_clamp (n := jt) (by omega), nI_clamp (n := ji) (by omega), ifc_t hZ, ifc_t a6247, ifc_t c_15_6248, ifc_t a6250, ifc_t c_56_6251, ifc_f (q := (fnso jt) < 0) (Int32.not_lt.mpr c_15_6248)]; exact congrArg (fun z9 => upd fnit (40 * jt + ji) z9 i) (show x3.toInt8.toInt32 = NARW (fnso jt) x3 from by unfold NARW; first | (simp only [ifc_t hZ, ifc_t a6247, ifc_t c_15_6248, ifc_t a6250, ifc_t c_56_6251, ifc_f (q := fnso jt = 1) (by rw [c_56_6251]; decide), ifc_f (q := fnso jt = 4) (by rw [c_56_6251]; decide)]; done) | (simp only [ifc_t hZ, ifc_t a6247, ifc_t c_15_6248, ifc_t a6250, ifc_t c_56_6251, ifc_f (q := fnso jt = 1) (by rw [c_56_6251]; decide), ifc_f (q := fnso jt = 4) (by rw [c_56_6251]; decide)]; rfl)))⟩) rfl gX12_put_6.2.2.2
      · refine lv_if_ne (tgt := 40) hx hb gX12_put_2.2.1 (by decide) (fun c9 => absurd (by decide) c9) (fun _ => ?_)
        refine lv_bipush (v := (-12)) hx hb gX12_put_2.2.2.1 (by decide) ?_
        refine toQ hQ0 ?_
        exact RI (v := (-12)) hC hP hD hS [0, 1, 2, 3] fnit rfl rfl (by decide) (⟨(by first | rfl | (simp only [nI_clamp (n := jt) (by omega), ifc_t hZ, ifc_t a6247, ifc_t c_15_6248, ifc_f a6250, ifc_f (q := (fnso jt) < 0) (Int32.not_lt.mpr c_15_6248)]; done) | (simp only [nI_clamp (n := jt) (by omega), ifc_t hZ, ifc_t a6247, ifc_t c_15_6248, ifc_f a6250, ifc_f (q := (fnso jt) < 0) (Int32.not_lt.mpr c_15_6248)]; rfl)), (fun i => by first | rfl | (simp only [nI_clamp (n := jt) (by omega), ifc_t hZ, ifc_t a6247, ifc_t c_15_6248, ifc_f a6250, ifc_f (q := (fnso jt) < 0) (Int32.not_lt.mpr c_15_6248)]; done) | (simp only [nI_clamp (n := jt) (by omega), ifc_t hZ, ifc_t a6247, ifc_t c_15_6248, ifc_f a6250, ifc_f (q := (fnso jt) < 0) (Int32.not_lt.mpr c_15_6248)]; rfl))⟩) rfl gX12_put_2.2.2.2.1
    · refine lv_bipush (v := (-11)) hx hb gX12_put_1.1 (by decide) ?_
      refine toQ hQ0 ?_
      exact RI (v := (-11)) hC hP hD hS [0, 1, 2, 3] fnit rfl rfl (by decide) (⟨(by first | rfl | (simp only [nI_clamp (n := jt) (by omega), ifc_t hZ, ifc_t a6247, ifc_f c_15_6248, ifc_t (q := (fnso jt) < 0) (Int32.not_le.mp c_15_6248)]; done) | (simp only [nI_clamp (n := jt) (by omega), ifc_t hZ, ifc_t a6247, ifc_f c_15_6248, ifc_t (q := (fnso jt) < 0) (Int32.not_le.mp c_15_6248)]; rfl)), (fun i => by first | rfl | (simp only [nI_clamp (n := jt) (by omega), ifc_t hZ, ifc_t a6247, ifc_f c_15_6248, ifc_t (q := (fnso jt) < 0) (Int32.not_le.mp c_15_6248)]; done) | (simp only [nI_clamp (n := jt) (by omega), ifc_t hZ, ifc_t a6247, ifc_f c_15_6248, ifc_t (q := (fnso jt) < 0) (Int32.not_le.mp c_15_6248)]; rfl))⟩) rfl gX12_put_1.2.1
  · refine lv_if_ne (tgt := 9) hx hb gX12_put_0.2.2.1 (by decide) (fun c9 => absurd (by decide) c9) (fun _ => ?_)
    refine lv_iconst (v := (-1)) hx hb gX12_put_0.2.2.2.1 (by decide) ?_
    refine toQ hQ0 ?_
    exact RI (v := (-1)) hC hP hD hS [0, 1, 2, 3] fnit rfl rfl (by decide) (⟨(by first | rfl | (simp only [ifc_t hZ, ifc_f a6247]; done) | (simp only [ifc_t hZ, ifc_f a6247]; rfl)), (fun i => by first | rfl | (simp only [ifc_t hZ, ifc_f a6247]; done) | (simp only [ifc_t hZ, ifc_f a6247]; rfl))⟩) rfl gX12_put_0.2.2.2.2.1
def K_m_notThereX (l : Launch) (G : GG) (h0 : Nat) (jt : Nat) (so9 : Int32) (fi : Int32) (nw : Nat) (nk : Nat) (mhasKept : Int32) (nt : Nat) (mtaped : Int32) (nr : Nat) (mrowMany : Int32) (mroundOf : Int32) (mroundFrom : Int32) (mouts : Int32) (nm : Nat) (mfromHour : Int32) (mtoHour : Int32) (ns : Nat) (mfrom : Int32) (mto : Int32) (msort : Int32) (misFault : Int32) (mdeep : Int32) (mcoded : Int32) (mlines : Int32) (nl : Nat) (nc : Nat) (nF : Nat) (np : Nat) (ntr : Nat) (nb : Nat) (mbestCost : Int32) (nso : Nat) (nsi : Nat) (nit : Nat) (nsh : Nat) (nsf : Nat) (nss : Nat) (nrc : Nat) (mtraced : Int32) (mdealer : Int32) (mnumber : Int32) (mwhose : Int32) (msize : Int32) (misParted : Int32) (fnso : Nat → Int32) (fnsi : Nat → Int32) : Prop := MP l G yX12_notThere cX12_notThere 5 (some .int) 2 [.ref h0, .int (nI jt), .int so9, .int fi, .int fi] [(h0, oX12 nw nk mhasKept nt mtaped nr mrowMany mroundOf mroundFrom mouts nm mfromHour mtoHour ns mfrom mto msort misFault mdeep mcoded mlines nl nc nF np ntr nb mbestCost nso nsi nit nsh nsf nss nrc mtraced mdealer mnumber mwhose msize misParted), (nso, iA G 4 fnso), (nsi, iA G 4 fnsi)] (fun r : Int32 => (r = (-11) ∧ fnso jt < 0) ∨ (r = (-13) ∧ NTB (fnso jt) so9) ∨ (r = (-12) ∧ NTC (fnso jt) (fnsi jt) so9 fi) ∨ (r = 0 ∧ NTA (fnso jt) (fnsi jt) so9 fi))
set_option maxHeartbeats 4000000 in
set_option maxRecDepth 100000 in
theorem m_notThereX (l : Launch) (G : GG) (h0 : Nat) (jt : Nat) (so9 : Int32) (fi : Int32) (nw : Nat) (nk : Nat) (mhasKept : Int32) (nt : Nat) (mtaped : Int32) (nr : Nat) (mrowMany : Int32) (mroundOf : Int32) (mroundFrom : Int32) (mouts : Int32) (nm : Nat) (mfromHour : Int32) (mtoHour : Int32) (ns : Nat) (mfrom : Int32) (mto : Int32) (msort : Int32) (misFault : Int32) (mdeep : Int32) (mcoded : Int32) (mlines : Int32) (nl : Nat) (nc : Nat) (nF : Nat) (np : Nat) (ntr : Nat) (nb : Nat) (mbestCost : Int32) (nso : Nat) (nsi : Nat) (nit : Nat) (nsh : Nat) (nsf : Nat) (nss : Nat) (nrc : Nat) (mtraced : Int32) (mdealer : Int32) (mnumber : Int32) (mwhose : Int32) (msize : Int32) (misParted : Int32) (fnso : Nat → Int32) (fnsi : Nat → Int32) (hjt : jt < 4) : K_m_notThereX l G h0 jt so9 fi nw nk mhasKept nt mtaped nr mrowMany mroundOf mroundFrom mouts nm mfromHour mtoHour ns mfrom mto msort misFault mdeep mcoded mlines nl nc nF np ntr nb mbestCost nso nsi nit nsh nsf nss nrc mtraced mdealer mnumber mwhose msize misParted fnso fnsi := by
  refine MP.start (by decide +kernel) (Nat.le_of_ble_eq_true rfl) ?_
  intro p e s m below meth c ls hC hK hP hD hl
  refine absQ (fun Q0 hQ0 => ?_)
  have hl : lv_has ls 5 [(0, .ref h0), (1, .int (nI jt)), (2, .int so9), (3, .int fi), (4, .int fi)] := hl
  refine Kan8 hC (fun hx hb hr hml hB hown hlocks hnm => ?_)
  refine lv_aload_n hx hb gX12_notThere_0.1 rfl (lv_at0 hl) ?_
  refine gf_X12_63 hC rfl hK hP 0 rfl rfl gX12_notThere_0.2.1 ?_
  refine lv_iload_n hx hb gX12_notThere_0.2.2.1 rfl (lv_at1 hl) ?_
  refine aldN hC hK hP 1 rfl (k := jt) (by omega) (Nat.le_of_ble_eq_true rfl) (v := fnso jt) rfl gX12_notThere_0.2.2.2.1 ?_
  refine lv_if_ge (tgt := 14) hx hb gX12_notThere_0.2.2.2.2.1 (by decide) (fun c_6_6255 => ?_) (fun c_6_6255 => ?_)
  · refine lv_aload_n hx hb gX12_notThere_0.2.2.2.2.2.2.2.1 rfl (lv_at0 hl) ?_
    refine gf_X12_63 hC rfl hK hP 0 rfl rfl gX12_notThere_0.2.2.2.2.2.2.2.2.1 ?_
    refine lv_iload_n hx hb gX12_notThere_0.2.2.2.2.2.2.2.2.2 rfl (lv_at1 hl) ?_
    refine aldN hC hK hP 1 rfl (k := jt) (by omega) (Nat.le_of_ble_eq_true rfl) (v := fnso jt) rfl gX12_notThere_1.1 ?_
    refine lv_iload_n hx hb gX12_notThere_1.2.1 rfl (lv_at2 hl) ?_
    refine lv_icmp_eq (tgt := 29) hx hb gX12_notThere_1.2.2.1 (by decide) (fun c_21_6256 => ?_) (fun c_21_6256 => ?_)
    · refine lv_iload_n hx hb gX12_notThere_1.2.2.2.2.2.1 rfl (lv_at3 hl) ?_
      refine lv_if_lt (tgt := 50) hx hb gX12_notThere_1.2.2.2.2.2.2.1 (by decide) (fun c_30_6257 => ?_) (fun c_30_6257 => ?_)
      · refine lv_bipush (v := (-12)) hx hb gX12_notThere_2.2.2.2.2.2.2.1 (by decide) ?_
        refine lv_goto (tgt := 56) hx hb gX12_notThere_2.2.2.2.2.2.2.2.1 (by decide) ?_
        refine toQ hQ0 ?_
        exact RP (v := (-12)) hC (Or.inr (Or.inr (Or.inl ⟨rfl, ⟨Int32.not_lt.mpr c_6_6255, c_21_6256, Or.inl c_30_6257⟩⟩))) rfl gX12_notThere_2.2.2.2.2.2.2.2.2.2
      · refine lv_iload hx hb gX12_notThere_1.2.2.2.2.2.2.2.1 (lv_at4 hl) ?_
        refine lv_aload_n hx hb gX12_notThere_1.2.2.2.2.2.2.2.2.1 rfl (lv_at0 hl) ?_
        refine gf_X12_66 hC rfl hK hP 0 rfl rfl gX12_notThere_1.2.2.2.2.2.2.2.2.2 ?_
        refine lv_iload_n hx hb gX12_notThere_2.1 rfl (lv_at1 hl) ?_
        refine aldN hC hK hP 2 rfl (k := jt) (by omega) (Nat.le_of_ble_eq_true rfl) (v := fnsi jt) rfl gX12_notThere_2.2.1 ?_
        refine lv_icmp_ge (tgt := 50) hx hb gX12_notThere_2.2.2.1 (by decide) (fun c_41_6258 => ?_) (fun c_41_6258 => ?_)
        · refine lv_bipush (v := (-12)) hx hb gX12_notThere_2.2.2.2.2.2.2.1 (by decide) ?_
          refine lv_goto (tgt := 56) hx hb gX12_notThere_2.2.2.2.2.2.2.2.1 (by decide) ?_
          refine toQ hQ0 ?_
          exact RP (v := (-12)) hC (Or.inr (Or.inr (Or.inl ⟨rfl, ⟨Int32.not_lt.mpr c_6_6255, c_21_6256, Or.inr c_41_6258⟩⟩))) rfl gX12_notThere_2.2.2.2.2.2.2.2.2.2
        · refine lv_iload hx hb gX12_notThere_2.2.2.2.1 (lv_at4 hl) ?_
          refine lv_iload_n hx hb gX12_notThere_2.2.2.2.2.1 rfl (lv_at3 hl) ?_
          refine lv_icmp_ge (tgt := 55) hx hb gX12_notThere_2.2.2.2.2.2.1 (by decide) (fun _ => ?_) (fun c9 => absurd (Int32.le_refl _) c9)
          refine lv_iconst (v := 0) hx hb gX12_notThere_2.2.2.2.2.2.2.2.2.1 (by decide) ?_
          refine toQ hQ0 ?_
          exact RP (v := 0) hC (Or.inr (Or.inr (Or.inr ⟨rfl, ⟨Int32.not_lt.mpr c_6_6255, c_21_6256, c_30_6257, c_41_6258⟩⟩))) rfl gX12_notThere_2.2.2.2.2.2.2.2.2.2
    · refine lv_bipush (v := (-13)) hx hb gX12_notThere_1.2.2.2.1 (by decide) ?_
      refine lv_goto (tgt := 56) hx hb gX12_notThere_1.2.2.2.2.1 (by decide) ?_
      refine toQ hQ0 ?_
      exact RP (v := (-13)) hC (Or.inr (Or.inl ⟨rfl, ⟨Int32.not_lt.mpr c_6_6255, c_21_6256⟩⟩)) rfl gX12_notThere_2.2.2.2.2.2.2.2.2.2
  · refine lv_bipush (v := (-11)) hx hb gX12_notThere_0.2.2.2.2.2.1 (by decide) ?_
    refine lv_goto (tgt := 56) hx hb gX12_notThere_0.2.2.2.2.2.2.1 (by decide) ?_
    refine toQ hQ0 ?_
    exact RP (v := (-11)) hC (Or.inl ⟨rfl, Int32.not_le.mp c_6_6255⟩) rfl gX12_notThere_2.2.2.2.2.2.2.2.2.2
def K_r_item (l : Launch) (G : GG) (h0 : Nat) (x1 : Int32) (x2 : Int32) (x3 : Int32) (nw : Nat) (nk : Nat) (mhasKept : Int32) (nt : Nat) (mtaped : Int32) (nr : Nat) (mrowMany : Int32) (mroundOf : Int32) (mroundFrom : Int32) (mouts : Int32) (nm : Nat) (mfromHour : Int32) (mtoHour : Int32) (ns : Nat) (mfrom : Int32) (mto : Int32) (msort : Int32) (misFault : Int32) (mdeep : Int32) (mcoded : Int32) (mlines : Int32) (nl : Nat) (nc : Nat) (nF : Nat) (np : Nat) (ntr : Nat) (nb : Nat) (mbestCost : Int32) (nso : Nat) (nsi : Nat) (nit : Nat) (nsh : Nat) (nsf : Nat) (nss : Nat) (nrc : Nat) (mtraced : Int32) (mdealer : Int32) (mnumber : Int32) (mwhose : Int32) (msize : Int32) (misParted : Int32) (fnso : Nat → Int32) (fnsi : Nat → Int32) (fnit : Nat → Int32) : Prop := MP l G yX12_item cX12_item 5 (some .int) 3 [.ref h0, .int x1, .int x2, .int x3] [(h0, oX12 nw nk mhasKept nt mtaped nr mrowMany mroundOf mroundFrom mouts nm mfromHour mtoHour ns mfrom mto msort misFault mdeep mcoded mlines nl nc nF np ntr nb mbestCost nso nsi nit nsh nsf nss nrc mtraced mdealer mnumber mwhose msize misParted), (nso, iA G 4 fnso), (nsi, iA G 4 fnsi), (nit, iA G 160 fnit)] (fun r : Int32 => r = ifc (Wi x1 0 3) (ifc (Wi x2 0 4) (ifc (fnso x1.toNatClampNeg < 0) (-11) (ifc (fnso x1.toNatClampNeg = x2) (ifc (x3 < 0 ∨ fnsi x1.toNatClampNeg ≤ x3) (-12) (fnit (40 * x1.toNatClampNeg + x3.toNatClampNeg))) (-13))) (-1)) (-1))
set_option maxHeartbeats 4000000 in
set_option maxRecDepth 100000 in
theorem r_item (l : Launch) (G : GG) (h0 : Nat) (x1 : Int32) (x2 : Int32) (x3 : Int32) (nw : Nat) (nk : Nat) (mhasKept : Int32) (nt : Nat) (mtaped : Int32) (nr : Nat) (mrowMany : Int32) (mroundOf : Int32) (mroundFrom : Int32) (mouts : Int32) (nm : Nat) (mfromHour : Int32) (mtoHour : Int32) (ns : Nat) (mfrom : Int32) (mto : Int32) (msort : Int32) (misFault : Int32) (mdeep : Int32) (mcoded : Int32) (mlines : Int32) (nl : Nat) (nc : Nat) (nF : Nat) (np : Nat) (ntr : Nat) (nb : Nat) (mbestCost : Int32) (nso : Nat) (nsi : Nat) (nit : Nat) (nsh : Nat) (nsf : Nat) (nss : Nat) (nrc : Nat) (mtraced : Int32) (mdealer : Int32) (mnumber : Int32) (mwhose : Int32) (msize : Int32) (misParted : Int32) (fnso : Nat → Int32) (fnsi : Nat → Int32) (fnit : Nat → Int32) (hZ : SZ fnsi) : K_r_item l G h0 x1 x2 x3 nw nk mhasKept nt mtaped nr mrowMany mroundOf mroundFrom mouts nm mfromHour mtoHour ns mfrom mto msort misFault mdeep mcoded mlines nl nc nF np ntr nb mbestCost nso nsi nit nsh nsf nss nrc mtraced mdealer mnumber mwhose msize misParted fnso fnsi fnit := by
  refine MP.start (by decide +kernel) (Nat.le_of_ble_eq_true rfl) ?_
  intro p e s m below meth c ls hC hK hP hD hl
  refine absQ (fun Q0 hQ0 => ?_)
  have hl : lv_has ls 5 [(0, .ref h0), (1, .int x1), (2, .int x2), (3, .int x3)] := hl
  refine Kan8 hC (fun hx hb hr hml hB hown hlocks hnm => ?_)
  refine lv_iload_n hx hb gX12_item_0.1 rfl (lv_at1 hl) ?_
  refine pS hC hK hl (m_isFour l G x1) si_X12_336 rfl rfl (Nat.le_of_ble_eq_true rfl) rm_3_2_1 ⟨by first | exact Nat.le_of_ble_eq_true rfl | exact Nat.zero_le _, by first | exact Nat.le_of_ble_eq_true rfl | exact Nat.zero_le _⟩ gX12_item_0.2.1 (Kors (Keqa fun a6260 => ?_) (Keqa fun a6260 => ?_))
  · refine lv_if_eq (tgt := 16) hx hb gX12_item_0.2.2.1 (by decide) (fun c9 => absurd c9 (by decide)) (fun _ => ?_)
    refine lv_iload_n hx hb gX12_item_0.2.2.2.1 rfl (lv_at2 hl) ?_
    refine lv_iconst (v := 0) hx hb gX12_item_0.2.2.2.2.1 (by decide) ?_
    refine lv_iconst (v := 4) hx hb gX12_item_0.2.2.2.2.2.1 (by decide) ?_
    refine pS hC hK hl (m_within l G x2 0 4) si_X12_84 rfl rfl (Nat.le_of_ble_eq_true rfl) rm_3_1_3 ⟨by first | exact Nat.le_of_ble_eq_true rfl | exact Nat.zero_le _, by first | exact Nat.le_of_ble_eq_true rfl | exact Nat.zero_le _⟩ gX12_item_0.2.2.2.2.2.2.1 (Kors (Keqa fun a6262 => ?_) (Keqa fun a6262 => ?_))
    · refine lv_if_ne (tgt := 18) hx hb gX12_item_0.2.2.2.2.2.2.2.1 (by decide) (fun _ => ?_) (fun c9 => absurd c9 (by decide))
      obtain ⟨jt, hjt, rfl⟩ := Wi3 a6260
      refine lv_aload_n hx hb gX12_item_1.1 rfl (lv_at0 hl) ?_
      refine lv_iload_n hx hb gX12_item_1.2.1 rfl (lv_at1 hl) ?_
      refine lv_iload_n hx hb gX12_item_1.2.2.1 rfl (lv_at2 hl) ?_
      refine lv_iload_n hx hb gX12_item_1.2.2.2.1 rfl (lv_at3 hl) ?_
      refine lv_iload_n hx hb gX12_item_1.2.2.2.2.1 rfl (lv_at3 hl) ?_
      refine pV hC hK hl hP hD (m_notThereX l G h0 jt x2 x3 nw nk mhasKept nt mtaped nr mrowMany mroundOf mroundFrom mouts nm mfromHour mtoHour ns mfrom mto msort misFault mdeep mcoded mlines nl nc nF np ntr nb mbestCost nso nsi nit nsh nsf nss nrc mtraced mdealer mnumber mwhose msize misParted fnso fnsi (by omega)) si_X12_339 [0, 1, 2] sm_0_1_2 fm_0_1_2 nd_0_1_2 rfl rfl rfl rfl rfl (Nat.le_of_ble_eq_true rfl) rm_3_2_5 ⟨by first | exact Nat.le_of_ble_eq_true rfl | exact Nat.zero_le _, by first | exact Nat.le_of_ble_eq_true rfl | exact Nat.zero_le _⟩ gX12_item_1.2.2.2.2.2.1 (Kors (Keqa fun a6264 => ?_) (Kors (Keqa fun a6264 => ?_) (Kors (Keqa fun a6264 => ?_) (Keqa fun a6264 => ?_))))
      · refine lv_istore (lv' := [(4, .int (-11)), (0, .ref h0), (1, .int (nI jt)), (2, .int x2), (3, .int x3)]) hx hb gX12_item_1.2.2.2.2.2.2.1 hl (by decide) rfl (fun ls hl => ?_)
        refine lv_iload hx hb gX12_item_1.2.2.2.2.2.2.2.1 (lv_at0 hl) ?_
        refine lv_if_eq (tgt := 38) hx hb gX12_item_1.2.2.2.2.2.2.2.2.1 (by decide) (fun c9 => absurd c9 (by decide)) (fun _ => ?_)
        refine lv_iload hx hb gX12_item_1.2.2.2.2.2.2.2.2.2 (lv_at0 hl) ?_
        refine lv_goto (tgt := 49) hx hb gX12_item_2.1 (by decide) ?_
        refine toQ hQ0 ?_
        exact RP (v := (-11)) hC ((by first | rfl | (simp only [nI_clamp (n := jt) (by omega), ifc_t hZ, ifc_t a6260, ifc_t a6262, ifc_t a6264]; done) | (simp only [nI_clamp (n := jt) (by omega), ifc_t hZ, ifc_t a6260, ifc_t a6262, ifc_t a6264]; rfl))) rfl gX12_item_2.2.2.2.2.2.2.2.2.2
      · refine lv_istore (lv' := [(4, .int (-13)), (0, .ref h0), (1, .int (nI jt)), (2, .int x2), (3, .int x3)]) hx hb gX12_item_1.2.2.2.2.2.2.1 hl (by decide) rfl (fun ls hl => ?_)
        refine lv_iload hx hb gX12_item_1.2.2.2.2.2.2.2.1 (lv_at0 hl) ?_
        refine lv_if_eq (tgt := 38) hx hb gX12_item_1.2.2.2.2.2.2.2.2.1 (by decide) (fun c9 => absurd c9 (by decide)) (fun _ => ?_)
        refine lv_iload hx hb gX12_item_1.2.2.2.2.2.2.2.2.2 (lv_at0 hl) ?_
        refine lv_goto (tgt := 49) hx hb gX12_item_2.1 (by decide) ?_
        refine toQ hQ0 ?_
        exact RP (v := (-13)) hC ((by first | rfl | (simp only [nI_clamp (n := jt) (by omega), ifc_t hZ, ifc_t a6260, ifc_t a6262, ifc_t a6264, ifc_f a6264.1, ifc_f a6264.2]; done) | (simp only [nI_clamp (n := jt) (by omega), ifc_t hZ, ifc_t a6260, ifc_t a6262, ifc_t a6264, ifc_f a6264.1, ifc_f a6264.2]; rfl))) rfl gX12_item_2.2.2.2.2.2.2.2.2.2
      · refine lv_istore (lv' := [(4, .int (-12)), (0, .ref h0), (1, .int (nI jt)), (2, .int x2), (3, .int x3)]) hx hb gX12_item_1.2.2.2.2.2.2.1 hl (by decide) rfl (fun ls hl => ?_)
        refine lv_iload hx hb gX12_item_1.2.2.2.2.2.2.2.1 (lv_at0 hl) ?_
        refine lv_if_eq (tgt := 38) hx hb gX12_item_1.2.2.2.2.2.2.2.2.1 (by decide) (fun c9 => absurd c9 (by decide)) (fun _ => ?_)
        refine lv_iload hx hb gX12_item_1.2.2.2.2.2.2.2.2.2 (lv_at0 hl) ?_
        refine lv_goto (tgt := 49) hx hb gX12_item_2.1 (by decide) ?_
        refine toQ hQ0 ?_
        exact RP (v := (-12)) hC ((by first | rfl | (simp only [nI_clamp (n := jt) (by omega), ifc_t hZ, ifc_t a6260, ifc_t a6262, ifc_t a6264, ifc_f a6264.1, ifc_t a6264.2.1, ifc_t a6264.2.2]; done) | (simp only [nI_clamp (n := jt) (by omega), ifc_t hZ, ifc_t a6260, ifc_t a6262, ifc_t a6264, ifc_f a6264.1, ifc_t a6264.2.1, ifc_t a6264.2.2]; rfl))) rfl gX12_item_2.2.2.2.2.2.2.2.2.2
      · refine lv_istore (lv' := [(4, .int 0), (0, .ref h0), (1, .int (nI jt)), (2, .int x2), (3, .int x3)]) hx hb gX12_item_1.2.2.2.2.2.2.1 hl (by decide) rfl (fun ls hl => ?_)
        refine lv_iload hx hb gX12_item_1.2.2.2.2.2.2.2.1 (lv_at0 hl) ?_
        refine lv_if_eq (tgt := 38) hx hb gX12_item_1.2.2.2.2.2.2.2.2.1 (by decide) (fun _ => ?_) (fun c9 => absurd (by decide) c9)
        obtain ⟨ji, hji, rfl⟩ := NT.at hZ (i := jt) (by omega) ⟨a6264.2.2.1, a6264.2.2.2⟩
        refine lv_aload_n hx hb gX12_item_2.2.1 rfl (lv_at1 hl) ?_
        refine gf_X12_69 hC rfl hK hP 0 rfl rfl gX12_item_2.2.2.1 ?_
        refine lv_bipush (v := 40) hx hb gX12_item_2.2.2.2.1 (by decide) ?_
        refine lv_iload_n hx hb gX12_item_2.2.2.2.2.1 rfl (lv_at2 hl) ?_
        refine lv_imul hx hb gX12_item_2.2.2.2.2.2.1 ?_
        refine eqi (x1 := nI (40 * jt)) (nI_mul 40 jt) ?_
        refine lv_iload_n hx hb gX12_item_2.2.2.2.2.2.2.1 rfl (lv_at4 hl) ?_
        refine lv_iadd hx hb gX12_item_2.2.2.2.2.2.2.2.1 ?_
        refine eqi (x1 := nI (40 * jt + ji)) (nI_add (40 * jt) ji) ?_
        refine aldN hC hK hP 3 rfl (k := (40 * jt + ji)) (by omega) (Nat.le_of_ble_eq_true rfl) (v := fnit (40 * jt + ji)) rfl gX12_item_2.2.2.2.2.2.2.2.2.1 ?_
        refine toQ hQ0 ?_
        exact RP (v := fnit (40 * jt + ji)) hC ((by first | rfl | (simp only [nI_clamp (n := jt) (by omega), nI_clamp (n := ji) (by omega), ifc_t hZ, ifc_t a6260, ifc_t a6262, ifc_t a6264, ifc_f a6264.1, ifc_t a6264.2.1, ifc_f (not_or.mpr ⟨a6264.2.2.1, a6264.2.2.2⟩)]; done) | (simp only [nI_clamp (n := jt) (by omega), nI_clamp (n := ji) (by omega), ifc_t hZ, ifc_t a6260, ifc_t a6262, ifc_t a6264, ifc_f a6264.1, ifc_t a6264.2.1, ifc_f (not_or.mpr ⟨a6264.2.2.1, a6264.2.2.2⟩)]; rfl))) rfl gX12_item_2.2.2.2.2.2.2.2.2.2
    · refine lv_if_ne (tgt := 18) hx hb gX12_item_0.2.2.2.2.2.2.2.1 (by decide) (fun c9 => absurd (by decide) c9) (fun _ => ?_)
      refine lv_iconst (v := (-1)) hx hb gX12_item_0.2.2.2.2.2.2.2.2.1 (by decide) ?_
      refine toQ hQ0 ?_
      exact RP (v := (-1)) hC ((by first | rfl | (simp only [ifc_t hZ, ifc_t a6260, ifc_f a6262]; done) | (simp only [ifc_t hZ, ifc_t a6260, ifc_f a6262]; rfl))) rfl gX12_item_0.2.2.2.2.2.2.2.2.2
  · refine lv_if_eq (tgt := 16) hx hb gX12_item_0.2.2.1 (by decide) (fun _ => ?_) (fun c9 => absurd (by decide) c9)
    refine lv_iconst (v := (-1)) hx hb gX12_item_0.2.2.2.2.2.2.2.2.1 (by decide) ?_
    refine toQ hQ0 ?_
    exact RP (v := (-1)) hC ((by first | rfl | (simp only [ifc_t hZ, ifc_f a6260]; done) | (simp only [ifc_t hZ, ifc_f a6260]; rfl))) rfl gX12_item_0.2.2.2.2.2.2.2.2.2
def K_w_stamps (l : Launch) (G : GG) (kq : Nat) (k6 : Nat) (h0 : Nat) (x1 : Int32) (x2 : Int32) (x3 : Int32) (x4 : Int32) (nw : Nat) (nk : Nat) (mhasKept : Int32) (nt : Nat) (mtaped : Int32) (nr : Nat) (mrowMany : Int32) (mroundOf : Int32) (mroundFrom : Int32) (mouts : Int32) (nm : Nat) (mfromHour : Int32) (mtoHour : Int32) (ns : Nat) (mfrom : Int32) (mto : Int32) (msort : Int32) (misFault : Int32) (mdeep : Int32) (mcoded : Int32) (mlines : Int32) (nl : Nat) (nc : Nat) (nF : Nat) (np : Nat) (ntr : Nat) (nb : Nat) (mbestCost : Int32) (nso : Nat) (nsi : Nat) (nit : Nat) (nsh : Nat) (nsf : Nat) (nss : Nat) (nrc : Nat) (mtraced : Int32) (mdealer : Int32) (mnumber : Int32) (mwhose : Int32) (msize : Int32) (misParted : Int32) (fnw : Nat → Int32) (fnso : Nat → Int32) (fnsi : Nat → Int32) (fnit : Nat → Int32) : Prop := MI l G yX12_stamps cX12_stamps 9 (some .int) 4 0 0 [.ref h0, .int x1, .int x2, .int x3, .int x4] [(h0, oX12 nw nk mhasKept nt mtaped nr mrowMany mroundOf mroundFrom mouts nm mfromHour mtoHour ns mfrom mto msort misFault mdeep mcoded mlines nl nc nF np ntr nb mbestCost nso nsi nit nsh nsf nss nrc mtraced mdealer mnumber mwhose msize misParted), (nw, iA G 1662 fnw), (nso, iA G 4 fnso), (nsi, iA G 4 fnsi), (nit, iA G 160 fnit)] (fun (r : Int32) (u : (Nat → Int32)) => (r = STA x1 x2 x3 x4 kq k6 fnso fnsi fnit) ∧ (NI u ∧ VI u ∧ SCX u (fnw 0) (fnw 1) (fnw 2) (fnw 3) (fnw 4) (fnw 5) (STK (STA x1 x2 x3 x4 kq k6 fnso fnsi fnit) k6) (fnw 8) (fnw 9) (fnw 10) (fnw 11) ∧ FRO u fnw 104 176 ∧ ∀ i : Nat, i < 72 → u (104 + i) = ifc (STA x1 x2 x3 x4 kq k6 fnso fnsi fnit < 0) (fnw (104 + i)) (APS (shf fnw 104) k6 x1 fnit (x2.toNatClampNeg * 40) x3.toNatClampNeg x4.toNatClampNeg i))) (fun u : (Nat → Int32) => [(h0, oX12 nw nk mhasKept nt mtaped nr mrowMany mroundOf mroundFrom mouts nm mfromHour mtoHour ns mfrom mto msort misFault mdeep mcoded mlines nl nc nF np ntr nb mbestCost nso nsi nit nsh nsf nss nrc mtraced mdealer mnumber mwhose msize misParted), (nw, iA G 1662 u), (nso, iA G 4 fnso), (nsi, iA G 4 fnsi), (nit, iA G 160 fnit)])
set_option maxHeartbeats 4000000 in
set_option maxRecDepth 100000 in
theorem w_stamps (l : Launch) (G : GG) (kq : Nat) (k6 : Nat) (h0 : Nat) (x1 : Int32) (x2 : Int32) (x3 : Int32) (x4 : Int32) (nw : Nat) (nk : Nat) (mhasKept : Int32) (nt : Nat) (mtaped : Int32) (nr : Nat) (mrowMany : Int32) (mroundOf : Int32) (mroundFrom : Int32) (mouts : Int32) (nm : Nat) (mfromHour : Int32) (mtoHour : Int32) (ns : Nat) (mfrom : Int32) (mto : Int32) (msort : Int32) (misFault : Int32) (mdeep : Int32) (mcoded : Int32) (mlines : Int32) (nl : Nat) (nc : Nat) (nF : Nat) (np : Nat) (ntr : Nat) (nb : Nat) (mbestCost : Int32) (nso : Nat) (nsi : Nat) (nit : Nat) (nsh : Nat) (nsf : Nat) (nss : Nat) (nrc : Nat) (mtraced : Int32) (mdealer : Int32) (mnumber : Int32) (mwhose : Int32) (msize : Int32) (misParted : Int32) (fnw : Nat → Int32) (fnso : Nat → Int32) (fnsi : Nat → Int32) (fnit : Nat → Int32) (ekq : fnw 5 = nI kq) (hkq : kq ≤ 12) (ek6 : fnw 6 = nI k6) (hk6 : k6 ≤ 24) (hN : NI fnw) (hV : VI fnw) (hZ : SZ fnsi) : K_w_stamps l G kq k6 h0 x1 x2 x3 x4 nw nk mhasKept nt mtaped nr mrowMany mroundOf mroundFrom mouts nm mfromHour mtoHour ns mfrom mto msort misFault mdeep mcoded mlines nl nc nF np ntr nb mbestCost nso nsi nit nsh nsf nss nrc mtraced mdealer mnumber mwhose msize misParted fnw fnso fnsi fnit := by
  refine MI.start (by decide +kernel) (Nat.le_of_ble_eq_true rfl) ?_
  intro p e s m below meth c A ls hC hK hP hD hS hA hl
  refine absQ (fun Q0 hQ0 => ?_)
  have hl : lv_has ls 9 [(0, .ref h0), (1, .int x1), (2, .int x2), (3, .int x3), (4, .int x4)] := hl
  refine Kan8 hC (fun hx hb hr hml hB hown hlocks hnm => ?_)
  refine lv_aload_n hx hb gX12_stamps_0.1 rfl (lv_at0 hl) ?_
  refine lv_iload_n hx hb gX12_stamps_0.2.1 rfl (lv_at1 hl) ?_
  refine lv_iconst (v := 5) hx hb gX12_stamps_0.2.2.1 (by decide) ?_
  refine pV hC hK hl hP hD (m_is l G kq h0 x1 5 nw nk mhasKept nt mtaped nr mrowMany mroundOf mroundFrom mouts nm mfromHour mtoHour ns mfrom mto msort misFault mdeep mcoded mlines nl nc nF np ntr nb mbestCost nso nsi nit nsh nsf nss nrc mtraced mdealer mnumber mwhose msize misParted fnw (by omega) (ekq) (by omega)) si_X12_120 [0, 1] sm_0_1 fm_0_1 nd_0_1 rfl rfl rfl rfl rfl (Nat.le_of_ble_eq_true rfl) rm_4_2_3 ⟨by first | exact Nat.le_of_ble_eq_true rfl | exact Nat.zero_le _, by first | exact Nat.le_of_ble_eq_true rfl | exact Nat.zero_le _⟩ gX12_stamps_0.2.2.2.1 (Kors (Keqa fun a6266 => ?_) (Keqa fun a6266 => ?_))
  · refine lv_if_eq (tgt := 27) hx hb gX12_stamps_0.2.2.2.2.1 (by decide) (fun c9 => absurd c9 (by decide)) (fun _ => ?_)
    refine lv_iload_n hx hb gX12_stamps_0.2.2.2.2.2.1 rfl (lv_at2 hl) ?_
    refine pS hC hK hl (m_isFour l G x2) si_X12_336 rfl rfl (Nat.le_of_ble_eq_true rfl) rm_4_2_1 ⟨by first | exact Nat.le_of_ble_eq_true rfl | exact Nat.zero_le _, by first | exact Nat.le_of_ble_eq_true rfl | exact Nat.zero_le _⟩ gX12_stamps_0.2.2.2.2.2.2.1 (Kors (Keqa fun a6268 => ?_) (Keqa fun a6268 => ?_))
    · refine lv_if_eq (tgt := 27) hx hb gX12_stamps_0.2.2.2.2.2.2.2.1 (by decide) (fun c9 => absurd c9 (by decide)) (fun _ => ?_)
      refine lv_iload hx hb gX12_stamps_0.2.2.2.2.2.2.2.2.1 (lv_at4 hl) ?_
      refine lv_iconst (v := 0) hx hb gX12_stamps_0.2.2.2.2.2.2.2.2.2 (by decide) ?_
      refine lv_bipush (v := 9) hx hb gX12_stamps_1.1 (by decide) ?_
      refine pS hC hK hl (m_within l G x4 0 9) si_X12_84 rfl rfl (Nat.le_of_ble_eq_true rfl) rm_4_1_3 ⟨by first | exact Nat.le_of_ble_eq_true rfl | exact Nat.zero_le _, by first | exact Nat.le_of_ble_eq_true rfl | exact Nat.zero_le _⟩ gX12_stamps_1.2.1 (Kors (Keqa fun a6270 => ?_) (Keqa fun a6270 => ?_))
      · refine lv_if_ne (tgt := 29) hx hb gX12_stamps_1.2.2.1 (by decide) (fun _ => ?_) (fun c9 => absurd c9 (by decide))
        obtain ⟨jp, hjp, rfl⟩ := Hs_nat (by omega) a6266
        obtain ⟨jt, hjt, rfl⟩ := Wi3 a6268
        obtain ⟨jn, hjn, rfl⟩ := Wi_nat (N := 9) (by decide) a6270
        refine lv_aload_n hx hb gX12_stamps_1.2.2.2.2.2.1 rfl (lv_at0 hl) ?_
        refine gf_X12_63 hC rfl hK hP 0 rfl rfl gX12_stamps_1.2.2.2.2.2.2.1 ?_
        refine lv_iload_n hx hb gX12_stamps_1.2.2.2.2.2.2.2.1 rfl (lv_at2 hl) ?_
        refine aldN hC hK hP 2 rfl (k := jt) (by omega) (Nat.le_of_ble_eq_true rfl) (v := fnso jt) rfl gX12_stamps_1.2.2.2.2.2.2.2.2.1 ?_
        refine lv_if_ge (tgt := 43) hx hb gX12_stamps_1.2.2.2.2.2.2.2.2.2 (by decide) (fun c_35_6271 => ?_) (fun c_35_6271 => ?_)
        · refine lv_aload_n hx hb gX12_stamps_2.2.2.1 rfl (lv_at0 hl) ?_
          refine gf_X12_63 hC rfl hK hP 0 rfl rfl gX12_stamps_2.2.2.2.1 ?_
          refine lv_iload_n hx hb gX12_stamps_2.2.2.2.2.1 rfl (lv_at2 hl) ?_
          refine aldN hC hK hP 2 rfl (k := jt) (by omega) (Nat.le_of_ble_eq_true rfl) (v := fnso jt) rfl gX12_stamps_2.2.2.2.2.2.1 ?_
          refine lv_iconst (v := 1) hx hb gX12_stamps_2.2.2.2.2.2.2.1 (by decide) ?_
          refine lv_icmp_eq (tgt := 58) hx hb gX12_stamps_2.2.2.2.2.2.2.2.1 (by decide) (fun c_50_6272 => ?_) (fun c_50_6272 => ?_)
          · refine lv_iload_n hx hb gX12_stamps_3.1 rfl (lv_at3 hl) ?_
            refine lv_if_lt (tgt := 83) hx hb gX12_stamps_3.2.1 (by decide) (fun c_59_6273 => ?_) (fun c_59_6273 => ?_)
            · refine lv_bipush (v := (-12)) hx hb gX12_stamps_4.2.2.2.2.2.2.1 (by decide) ?_
              refine lv_goto (tgt := 89) hx hb gX12_stamps_4.2.2.2.2.2.2.2.1 (by decide) ?_
              refine lv_istore (lv' := [(5, .int (-12)), (0, .ref h0), (1, .int (nI jp)), (2, .int (nI jt)), (3, .int x3), (4, .int (nI jn))]) hx hb gX12_stamps_4.2.2.2.2.2.2.2.2.2 hl (by decide) rfl (fun ls hl => ?_)
              refine lv_iload hx hb gX12_stamps_5.1 (lv_at0 hl) ?_
              refine lv_if_eq (tgt := 99) hx hb gX12_stamps_5.2.1 (by decide) (fun c9 => absurd c9 (by decide)) (fun _ => ?_)
              refine lv_iload hx hb gX12_stamps_5.2.2.1 (lv_at0 hl) ?_
              have hA9 : STA (nI jp) (nI jt) x3 (nI jn) kq k6 fnso fnsi fnit = (-12) := by unfold STA; first | (simp only [nI_clamp (n := jt) (by omega), nI_clamp (n := jn) (by omega), ifc_t ekq, ifc_t hkq, ifc_t ek6, ifc_t hk6, ifc_t hN, ifc_t hV, ifc_t hZ, ifc_t a6266, ifc_t a6268, ifc_t a6270, ifc_t c_35_6271, ifc_t c_50_6272, ifc_t c_59_6273, ifc_f (q := (fnso jt) < 0) (Int32.not_lt.mpr c_35_6271), ifc_t (q := OUTS x3 (fnsi jt) (nI jn)) (Or.inl c_59_6273)]; done) | (simp only [nI_clamp (n := jt) (by omega), nI_clamp (n := jn) (by omega), ifc_t ekq, ifc_t hkq, ifc_t ek6, ifc_t hk6, ifc_t hN, ifc_t hV, ifc_t hZ, ifc_t a6266, ifc_t a6268, ifc_t a6270, ifc_t c_35_6271, ifc_t c_50_6272, ifc_t c_59_6273, ifc_f (q := (fnso jt) < 0) (Int32.not_lt.mpr c_35_6271), ifc_t (q := OUTS x3 (fnsi jt) (nI jn)) (Or.inl c_59_6273)]; rfl)
              have hK9 : STK (STA (nI jp) (nI jt) x3 (nI jn) kq k6 fnso fnsi fnit) k6 = nI k6 := by unfold STK; rw [hA9]; exact ifc_t (by decide)
              refine toQ hQ0 ?_
              exact RI (v := (-12)) hC hP hD hS [0, 1, 2, 3, 4] fnw rfl rfl (by decide) (⟨hA9.symm, ⟨hN, hV, (by rw [hK9, ← ek6]; exact SCX.rf), FRO.rf, fun i hi9 => (by rw [hA9]; exact (ifc_t (by decide)).symm)⟩⟩) rfl gX12_stamps_5.2.2.2.1
            · obtain ⟨ji, hji, rfl⟩ := nI_of c_59_6273
              refine lv_iload_n hx hb gX12_stamps_3.2.2.1 rfl (lv_at3 hl) ?_
              refine lv_i2l hx hb gX12_stamps_3.2.2.2.1 rfl ?_
              refine lv_ldc2 hx hb hown (hB _ m_1376) gX12_stamps_3.2.2.2.2.1 ?_
              refine lv_iload hx hb gX12_stamps_3.2.2.2.2.2.1 (lv_at4 hl) ?_
              refine lv_i2l hx hb gX12_stamps_3.2.2.2.2.2.2.1 rfl ?_
              refine lv_lmul hx hb gX12_stamps_3.2.2.2.2.2.2.2.1 ?_
              refine lv_ladd hx hb gX12_stamps_3.2.2.2.2.2.2.2.2.1 ?_
              refine lv_aload_n hx hb gX12_stamps_3.2.2.2.2.2.2.2.2.2 rfl (lv_at0 hl) ?_
              refine gf_X12_66 hC rfl hK hP 0 rfl rfl gX12_stamps_4.1 ?_
              refine lv_iload_n hx hb gX12_stamps_4.2.1 rfl (lv_at2 hl) ?_
              refine aldN hC hK hP 3 rfl (k := jt) (by omega) (Nat.le_of_ble_eq_true rfl) (v := fnsi jt) rfl gX12_stamps_4.2.2.1 ?_
              obtain ⟨jz, hjz, ejz⟩ := hZ jt (by omega)
              refine eqi (x1 := nI jz) ejz ?_
              refine lv_i2l hx hb gX12_stamps_4.2.2.2.1 rfl ?_
              refine W.lcmp hx hb gX12_stamps_4.2.2.2.2.1 ?_
              refine lv_if_le (tgt := 88) hx hb gX12_stamps_4.2.2.2.2.2.1 (by decide) (fun c_80_6274 => ?_) (fun c_80_6274 => ?_)
              · have hin9 := st_in (ji := ji) (jn := jn) (k := jz) (by omega) (by omega) (by omega) c_80_6274
                refine lv_iconst (v := 0) hx hb gX12_stamps_4.2.2.2.2.2.2.2.2.1 (by decide) ?_
                refine lv_istore (lv' := [(5, .int 0), (0, .ref h0), (1, .int (nI jp)), (2, .int (nI jt)), (3, .int (nI ji)), (4, .int (nI jn))]) hx hb gX12_stamps_4.2.2.2.2.2.2.2.2.2 hl (by decide) rfl (fun ls hl => ?_)
                refine lv_iload hx hb gX12_stamps_5.1 (lv_at0 hl) ?_
                refine lv_if_eq (tgt := 99) hx hb gX12_stamps_5.2.1 (by decide) (fun _ => ?_) (fun c9 => absurd (by decide) c9)
                refine lv_bipush (v := 40) hx hb gX12_stamps_5.2.2.2.2.1 (by decide) ?_
                refine lv_iload_n hx hb gX12_stamps_5.2.2.2.2.2.1 rfl (lv_at3 hl) ?_
                refine lv_imul hx hb gX12_stamps_5.2.2.2.2.2.2.1 ?_
                refine eqi (x1 := nI (40 * jt)) (nI_mul 40 jt) ?_
                refine lv_iload_n hx hb gX12_stamps_5.2.2.2.2.2.2.2.1 rfl (lv_at4 hl) ?_
                refine lv_iadd hx hb gX12_stamps_5.2.2.2.2.2.2.2.2.1 ?_
                refine eqi (x1 := nI (40 * jt + ji)) (nI_add (40 * jt) ji) ?_
                refine lv_istore (lv' := [(6, .int (nI (40 * jt + ji))), (5, .int 0), (0, .ref h0), (1, .int (nI jp)), (2, .int (nI jt)), (3, .int (nI ji)), (4, .int (nI jn))]) hx hb gX12_stamps_5.2.2.2.2.2.2.2.2.2 hl (by decide) rfl (fun ls hl => ?_)
                refine lv_iconst (v := 1) hx hb gX12_stamps_6.1 (by decide) ?_
                refine lv_istore (lv' := [(7, .int 1), (6, .int (nI (40 * jt + ji))), (5, .int 0), (0, .ref h0), (1, .int (nI jp)), (2, .int (nI jt)), (3, .int (nI ji)), (4, .int (nI jn))]) hx hb gX12_stamps_6.2.1 hl (by decide) rfl (fun ls hl => ?_)
                refine lv_iconst (v := 0) hx hb gX12_stamps_6.2.2.1 (by decide) ?_
                refine lv_istore (lv' := [(8, .int 0), (7, .int 1), (6, .int (nI (40 * jt + ji))), (5, .int 0), (0, .ref h0), (1, .int (nI jp)), (2, .int (nI jt)), (3, .int (nI ji)), (4, .int (nI jn))]) hx hb gX12_stamps_6.2.2.2.1 hl (by decide) rfl (fun ls hl => ?_)
                have keyP : ∀ (nP kP : Nat) (gd : Int32) (H : Heap) (locs : List Loc) (ls : Array Slot), kP + nP = jn → (GX fnit (jt * 40) ji kP gd) → va_PD G A [(h0, oX12 nw nk mhasKept nt mtaped nr mrowMany mroundOf mroundFrom mouts nm mfromHour mtoHour ns mfrom mto msort misFault mdeep mcoded mlines nl nc nF np ntr nb mbestCost nso nsi nit nsh nsf nss nrc mtraced mdealer mnumber mwhose msize misParted), (nw, iA G 1662 fnw), (nso, iA G 4 fnso), (nsi, iA G 4 fnsi), (nit, iA G 160 fnit)] H → va_S A s.heap H locs → lv_has ls 9 [(8, .int (nI kP)), (7, .int gd), (6, .int (nI (40 * jt + ji))), (5, .int 0), (0, .ref h0), (1, .int (nI jp)), (2, .int (nI jt)), (3, .int (nI ji)), (4, .int (nI jn))] → W p l e (RM 4 0 0) s m ([.ref h0, .int (nI jp), .int (nI jt), .int (nI ji), .int (nI jn)] : List Value).toArray below meth c H locs 0 0 Q0 (F0 m 113 ls []) := by
                  intro nP
                  induction nP with
                  | zero =>
                    intro kP gd H locs ls hkP hgx hPD hS hl
                    refine Kan2 hPD (fun hP hD => ?_)
                    obtain rfl : jn = kP := by omega
                    have hl : lv_has ls 9 [(8, .int (nI jn)), (7, .int gd), (6, .int (nI (40 * jt + ji))), (5, .int 0), (0, .ref h0), (1, .int (nI jp)), (2, .int (nI jt)), (3, .int (nI ji)), (4, .int (nI jn))] := hl
                    refine lv_iload hx hb gX12_stamps_6.2.2.2.2.1 (lv_at0 hl) ?_
                    refine lv_iload hx hb gX12_stamps_6.2.2.2.2.2.1 (lv_at8 hl) ?_
                    refine lv_icmp_ge (tgt := 182) hx hb gX12_stamps_6.2.2.2.2.2.2.1 (by decide) (fun _ => ?_) (fun c9 => absurd (Int32.le_refl _) c9)
                    refine lv_iload hx hb gX12_stamps_10.2.1 (lv_at1 hl) ?_
                    refine lv_if_ne (tgt := 190) hx hb gX12_stamps_10.2.2.1 (by decide) (fun c_184_6275 => ?_) (fun c_184_6275 => ?_)
                    · have hals := GX.t hgx c_184_6275
                      refine lv_aload_n hx hb gX12_stamps_10.2.2.2.2.2.1 rfl (lv_at4 hl) ?_
                      refine gf_X12_9 hC rfl hK hP 0 rfl rfl gX12_stamps_10.2.2.2.2.2.2.1 ?_
                      refine lv_bipush (v := 6) hx hb gX12_stamps_10.2.2.2.2.2.2.2.1 (by decide) ?_
                      refine ald hC hK hP 1 rfl (vin (by decide +kernel)) (k := 6) (by decide +kernel) (v := nI k6) (ek6) gX12_stamps_10.2.2.2.2.2.2.2.2.1 ?_
                      refine lv_iload hx hb gX12_stamps_10.2.2.2.2.2.2.2.2.2 (lv_at8 hl) ?_
                      refine lv_iadd hx hb gX12_stamps_11.1 ?_
                      refine eqi (x1 := nI (k6 + jn)) (nI_add k6 jn) ?_
                      refine lv_bipush (v := 24) hx hb gX12_stamps_11.2.1 (by decide) ?_
                      refine lv_icmp_le (tgt := 208) hx hb gX12_stamps_11.2.2.1 (by decide) (fun c_202_6276 => ?_) (fun c_202_6276 => ?_)
                      · have hfit9 := (nI_leI (a := k6 + jn) (b := 24) (by omega) (by decide)).mp c_202_6276
                        refine lv_iconst (v := 0) hx hb gX12_stamps_11.2.2.2.2.2.1 (by decide) ?_
                        refine lv_istore (lv' := [(8, .int 0), (7, .int gd), (6, .int (nI (40 * jt + ji))), (5, .int 0), (0, .ref h0), (1, .int (nI jp)), (2, .int (nI jt)), (3, .int (nI ji)), (4, .int (nI jn))]) hx hb gX12_stamps_11.2.2.2.2.2.2.1 hl (by decide) rfl (fun ls hl => ?_)
                        have keyQ : ∀ (nQ kQ : Nat) (vW : Nat → Int32) (H : Heap) (locs : List Loc) (ls : Array Slot), kQ + nQ = jn → ((NI vW ∧ VI vW ∧ SCX vW (fnw 0) (fnw 1) (fnw 2) (fnw 3) (fnw 4) (fnw 5) (nI (k6 + kQ)) (fnw 8) (fnw 9) (fnw 10) (fnw 11) ∧ FRO vW fnw 104 176) ∧ vW 6 = nI (k6 + kQ) ∧ ∀ i : Nat, i < 72 → vW (104 + i) = APS (shf fnw 104) k6 (nI jp) fnit (jt * 40) ji kQ i) → va_PD G A [(h0, oX12 nw nk mhasKept nt mtaped nr mrowMany mroundOf mroundFrom mouts nm mfromHour mtoHour ns mfrom mto msort misFault mdeep mcoded mlines nl nc nF np ntr nb mbestCost nso nsi nit nsh nsf nss nrc mtraced mdealer mnumber mwhose msize misParted), (nw, iA G 1662 vW), (nso, iA G 4 fnso), (nsi, iA G 4 fnsi), (nit, iA G 160 fnit)] H → va_S A s.heap H locs → lv_has ls 9 [(8, .int (nI kQ)), (7, .int gd), (6, .int (nI (40 * jt + ji))), (5, .int 0), (0, .ref h0), (1, .int (nI jp)), (2, .int (nI jt)), (3, .int (nI ji)), (4, .int (nI jn))] → W p l e (RM 4 0 0) s m ([.ref h0, .int (nI jp), .int (nI jt), .int (nI ji), .int (nI jn)] : List Value).toArray below meth c H locs 0 0 Q0 (F0 m 211 ls []) := by
                          intro nQ
                          induction nQ with
                          | zero =>
                            intro kQ vW H locs ls hkQ hvW hPD hS hl
                            refine Kan2 hPD (fun hP hD => ?_)
                            obtain rfl : jn = kQ := by omega
                            have hl : lv_has ls 9 [(8, .int (nI jn)), (7, .int gd), (6, .int (nI (40 * jt + ji))), (5, .int 0), (0, .ref h0), (1, .int (nI jp)), (2, .int (nI jt)), (3, .int (nI ji)), (4, .int (nI jn))] := hl
                            refine lv_iload hx hb gX12_stamps_11.2.2.2.2.2.2.2.1 (lv_at0 hl) ?_
                            refine lv_iload hx hb gX12_stamps_11.2.2.2.2.2.2.2.2.1 (lv_at8 hl) ?_
                            refine lv_icmp_ge (tgt := 255) hx hb gX12_stamps_11.2.2.2.2.2.2.2.2.2 (by decide) (fun _ => ?_) (fun c9 => absurd (Int32.le_refl _) c9)
                            refine lv_aload_n hx hb gX12_stamps_14.2.2.2.1 rfl (lv_at4 hl) ?_
                            refine gf_X12_9 hC rfl hK hP 0 rfl rfl gX12_stamps_14.2.2.2.2.1 ?_
                            refine lv_bipush (v := 6) hx hb gX12_stamps_14.2.2.2.2.2.1 (by decide) ?_
                            refine ald hC hK hP 1 rfl (vin (by decide +kernel)) (k := 6) (by decide +kernel) (v := nI (k6 + jn)) (hvW.2.1) gX12_stamps_14.2.2.2.2.2.2.1 ?_
                            have hA9 : STA (nI jp) (nI jt) (nI ji) (nI jn) kq k6 fnso fnsi fnit = nI (k6 + jn) := by unfold STA; first | (simp only [nI_clamp (n := jt) (by omega), nI_clamp (n := ji) (by omega), nI_clamp (n := jn) (by omega), ifc_t ekq, ifc_t hkq, ifc_t ek6, ifc_t hk6, ifc_t hN, ifc_t hV, ifc_t hZ, ifc_t a6266, ifc_t a6268, ifc_t a6270, ifc_t c_35_6271, ifc_t c_50_6272, ifc_f c_59_6273, ifc_t c_80_6274, ifc_f c_184_6275, ifc_t c_202_6276, ifc_f (q := (fnso jt) < 0) (Int32.not_lt.mpr c_35_6271), ifc_f (q := OUTS (nI ji) (fnsi jt) (nI jn)) (by rw [ejz, OUTS.iff (by omega) (by omega) (by omega)]; omega), ifc_t (q := ALS fnit (jt * 40) ji jn) hals, ifc_f (q := 24 < k6 + jn) (by omega)]; done) | (simp only [nI_clamp (n := jt) (by omega), nI_clamp (n := ji) (by omega), nI_clamp (n := jn) (by omega), ifc_t ekq, ifc_t hkq, ifc_t ek6, ifc_t hk6, ifc_t hN, ifc_t hV, ifc_t hZ, ifc_t a6266, ifc_t a6268, ifc_t a6270, ifc_t c_35_6271, ifc_t c_50_6272, ifc_f c_59_6273, ifc_t c_80_6274, ifc_f c_184_6275, ifc_t c_202_6276, ifc_f (q := (fnso jt) < 0) (Int32.not_lt.mpr c_35_6271), ifc_f (q := OUTS (nI ji) (fnsi jt) (nI jn)) (by rw [ejz, OUTS.iff (by omega) (by omega) (by omega)]; omega), ifc_t (q := ALS fnit (jt * 40) ji jn) hals, ifc_f (q := 24 < k6 + jn) (by omega)]; rfl)
                            have hK9 : STK (STA (nI jp) (nI jt) (nI ji) (nI jn) kq k6 fnso fnsi fnit) k6 = nI (k6 + jn) := by unfold STK; rw [hA9]; exact ifc_f (nI_nn (by omega))
                            refine toQ hQ0 ?_
                            exact RI (v := nI (k6 + jn)) hC hP hD hS [0, 1, 2, 3, 4] vW rfl rfl (by decide) (⟨hA9.symm, ⟨hvW.1.1, hvW.1.2.1, (by rw [hK9]; exact hvW.1.2.2.1), hvW.1.2.2.2, fun i hi9 => (hvW.2.2 i hi9).trans (by rw [hA9, ifc_f (nI_nn (by omega)), nI_clamp (n := jt) (by omega), nI_clamp (n := ji) (by omega), nI_clamp (n := jn) (by omega)])⟩⟩) rfl gX12_stamps_14.2.2.2.2.2.2.2
                          | succ nQ ihQ =>
                            intro kQ vW H locs ls hkQ hvW hPD hS hl
                            refine Kan2 hPD (fun hP hD => ?_)
                            refine lv_iload hx hb gX12_stamps_11.2.2.2.2.2.2.2.1 (lv_at0 hl) ?_
                            refine lv_iload hx hb gX12_stamps_11.2.2.2.2.2.2.2.2.1 (lv_at8 hl) ?_
                            refine lv_icmp_ge (tgt := 255) hx hb gX12_stamps_11.2.2.2.2.2.2.2.2.2 (by decide) (fun c9 => absurd c9 (nI_ge (a := kQ) (b := jn) (by omega) (by omega))) (fun _ => ?_)
                            obtain ⟨jc9, hjc9, ejc9⟩ := Wi_nat (N := 5) (by decide) (hals kQ (by omega)).1
                            obtain ⟨jh9, hjh9, ejh9⟩ := Wi_nat (N := 999) (by decide) (hals kQ (by omega)).2
                            obtain ⟨hNQ, hVQ, e6Q⟩ : NI vW ∧ VI vW ∧ vW 6 = nI (k6 + kQ) := ⟨hvW.1.1, hvW.1.2.1, hvW.2.1⟩
                            refine lv_aload_n hx hb gX12_stamps_12.1 rfl (lv_at4 hl) ?_
                            refine lv_iload_n hx hb gX12_stamps_12.2.1 rfl (lv_at5 hl) ?_
                            refine lv_aload_n hx hb gX12_stamps_12.2.2.1 rfl (lv_at4 hl) ?_
                            refine gf_X12_69 hC rfl hK hP 0 rfl rfl gX12_stamps_12.2.2.2.1 ?_
                            refine lv_iload hx hb gX12_stamps_12.2.2.2.2.1 (lv_at2 hl) ?_
                            refine lv_iconst (v := 2) hx hb gX12_stamps_12.2.2.2.2.2.1 (by decide) ?_
                            refine lv_iload hx hb gX12_stamps_12.2.2.2.2.2.2.1 (lv_at0 hl) ?_
                            refine lv_imul hx hb gX12_stamps_12.2.2.2.2.2.2.2.1 ?_
                            refine eqi (x1 := nI (2 * kQ)) (nI_mul 2 kQ) ?_
                            refine lv_iadd hx hb gX12_stamps_12.2.2.2.2.2.2.2.2.1 ?_
                            refine eqi (x1 := nI (40 * jt + ji + 2 * kQ)) (nI_add (40 * jt + ji) (2 * kQ)) ?_
                            refine aldN hC hK hP 4 rfl (k := (40 * jt + ji + 2 * kQ)) (by omega) (Nat.le_of_ble_eq_true rfl) (v := fnit (40 * jt + ji + 2 * kQ)) rfl gX12_stamps_12.2.2.2.2.2.2.2.2.2 ?_
                            refine eqi (x1 := nI jc9) ((show fnit (40 * jt + ji + 2 * kQ) = fnit (jt * 40 + (ji + 2 * kQ)) from congrArg fnit (by omega)).trans ejc9) ?_
                            refine lv_aload_n hx hb gX12_stamps_13.1 rfl (lv_at4 hl) ?_
                            refine gf_X12_69 hC rfl hK hP 0 rfl rfl gX12_stamps_13.2.1 ?_
                            refine lv_iload hx hb gX12_stamps_13.2.2.1 (lv_at2 hl) ?_
                            refine lv_iconst (v := 2) hx hb gX12_stamps_13.2.2.2.1 (by decide) ?_
                            refine lv_iload hx hb gX12_stamps_13.2.2.2.2.1 (lv_at0 hl) ?_
                            refine lv_imul hx hb gX12_stamps_13.2.2.2.2.2.1 ?_
                            refine eqi (x1 := nI (2 * kQ)) (nI_mul 2 kQ) ?_
                            refine lv_iadd hx hb gX12_stamps_13.2.2.2.2.2.2.1 ?_
                            refine eqi (x1 := nI (40 * jt + ji + 2 * kQ)) (nI_add (40 * jt + ji) (2 * kQ)) ?_
                            refine lv_iconst (v := 1) hx hb gX12_stamps_13.2.2.2.2.2.2.2.1 (by decide) ?_
                            refine lv_iadd hx hb gX12_stamps_13.2.2.2.2.2.2.2.2.1 ?_
                            refine eqi (x1 := nI (40 * jt + ji + 2 * kQ + 1)) (nI_add (40 * jt + ji + 2 * kQ) 1) ?_
                            refine aldN hC hK hP 4 rfl (k := (40 * jt + ji + 2 * kQ + 1)) (by omega) (Nat.le_of_ble_eq_true rfl) (v := fnit (40 * jt + ji + 2 * kQ + 1)) rfl gX12_stamps_13.2.2.2.2.2.2.2.2.2 ?_
                            refine eqi (x1 := nI jh9) ((show fnit (40 * jt + ji + 2 * kQ + 1) = fnit (jt * 40 + (ji + 2 * kQ + 1)) from congrArg fnit (by omega)).trans ejh9) ?_
                            refine vV (wr := [(nso, iA G 4 fnso), (nsi, iA G 4 fnsi), (nit, iA G 160 fnit)]) hC hK hl hP hD hS hA (m_stamped l G (k6 + kQ) h0 jp jc9 jh9 nw nk mhasKept nt mtaped nr mrowMany mroundOf mroundFrom mouts nm mfromHour mtoHour ns mfrom mto msort misFault mdeep mcoded mlines nl nc nF np ntr nb mbestCost nso nsi nit nsh nsf nss nrc mtraced mdealer mnumber mwhose msize misParted vW (e6Q) (by omega) (by omega) (by omega) (by omega) (hNQ) (hVQ)) si_X12_133 [0, 1] [2, 3, 4] sm_0_1 fm_0_1 nd_0_1 sm_2_3_4 nd_2_3_4 dj_0_1__2_3_4 rfl rfl rfl rfl rfl (Nat.le_of_ble_eq_true rfl) rm_4_1_5 ⟨Nat.le_of_ble_eq_true rfl, Nat.le_of_ble_eq_true rfl⟩ gX12_stamps_14.1 (fun gnw6279 H locs hr6277 hP hD hS => ?_)
                            try dsimp only at hr6277
                            refine Kpdr (ws := [(nso, iA G 4 fnso), (nsi, iA G 4 fnsi), (nit, iA G 160 fnit), (h0, oX12 nw nk mhasKept nt mtaped nr mrowMany mroundOf mroundFrom mouts nm mfromHour mtoHour ns mfrom mto msort misFault mdeep mcoded mlines nl nc nF np ntr nb mbestCost nso nsi nit nsh nsf nss nrc mtraced mdealer mnumber mwhose msize misParted), (nw, iA G 1662 gnw6279)]) hP hD (fun hP hD => ?_)
                            have w6280 := hr6277
                            refine lv_iinc (v := nI (kQ + 1)) (lv' := [(8, .int (nI (kQ + 1))), (7, .int gd), (6, .int (nI (40 * jt + ji))), (5, .int 0), (0, .ref h0), (1, .int (nI jp)), (2, .int (nI jt)), (3, .int (nI ji)), (4, .int (nI jn))]) hx hb gX12_stamps_14.2.1 hl (k := 0) rfl (nI_1 _) (by decide) rfl (fun ls hl => ?_)
                            refine lv_goto (tgt := 211) hx hb gX12_stamps_14.2.2.1 (by decide) ?_
                            refine Kpds (ws' := [(h0, oX12 nw nk mhasKept nt mtaped nr mrowMany mroundOf mroundFrom mouts nm mfromHour mtoHour ns mfrom mto msort misFault mdeep mcoded mlines nl nc nF np ntr nb mbestCost nso nsi nit nsh nsf nss nrc mtraced mdealer mnumber mwhose msize misParted), (nw, iA G 1662 gnw6279), (nso, iA G 4 fnso), (nsi, iA G 4 fnsi), (nit, iA G 160 fnit)]) hP hD [3, 4, 0, 1, 2] fm_3_4_0_1_2 nd_3_4_0_1_2 sm_3_4_0_1_2 (fun hP hD => ?_)
                            have hst9 : (NI gnw6279 ∧ VI gnw6279 ∧ SCX gnw6279 (fnw 0) (fnw 1) (fnw 2) (fnw 3) (fnw 4) (fnw 5) (nI (k6 + (kQ + 1))) (fnw 8) (fnw 9) (fnw 10) (fnw 11) ∧ FRO gnw6279 fnw 104 176) ∧ gnw6279 6 = nI (k6 + (kQ + 1)) ∧ ∀ i : Nat, i < 72 → gnw6279 (104 + i) = APS (shf fnw 104) k6 (nI jp) fnit (jt * 40) ji (kQ + 1) i := ⟨⟨w6280.1.1, w6280.1.2.1, SCX.st6 hvW.1.2.2.1 w6280.1.2.2.1, FRO.tr w6280.1.2.2.2 hvW.1.2.2.2⟩, w6280.2.1, fun i hi9 => (w6280.2.2 i hi9).trans (APS.step hvW.2.2 ejc9.symm ejh9.symm i hi9)⟩
                            exact ihQ (kQ + 1) gnw6279 _ _ _ (by omega) (by first | assumption | exact Or.inl rfl | exact Or.inr rfl | exact ⟨⟨hN, hV, ⟨rfl, rfl, rfl, rfl, rfl, rfl, ek6, rfl, rfl, rfl, rfl⟩, FRO.rf⟩, ek6, fun _ _ => rfl⟩) (And.intro hP hD) hS (lv_sub hl [0, 1, 2, 3, 4, 5, 6, 7, 8] rfl)
                        exact keyQ jn 0 fnw _ _ _ (by omega) (by first | assumption | exact Or.inl rfl | exact Or.inr rfl | exact ⟨⟨hN, hV, ⟨rfl, rfl, rfl, rfl, rfl, rfl, ek6, rfl, rfl, rfl, rfl⟩, FRO.rf⟩, ek6, fun _ _ => rfl⟩) (And.intro hP hD) hS (lv_sub hl [0, 1, 2, 3, 4, 5, 6, 7, 8] rfl)
                      · refine lv_bipush (v := (-2)) hx hb gX12_stamps_11.2.2.2.1 (by decide) ?_
                        have hA9 : STA (nI jp) (nI jt) (nI ji) (nI jn) kq k6 fnso fnsi fnit = (-2) := by unfold STA; first | (simp only [nI_clamp (n := jt) (by omega), nI_clamp (n := ji) (by omega), nI_clamp (n := jn) (by omega), ifc_t ekq, ifc_t hkq, ifc_t ek6, ifc_t hk6, ifc_t hN, ifc_t hV, ifc_t hZ, ifc_t a6266, ifc_t a6268, ifc_t a6270, ifc_t c_35_6271, ifc_t c_50_6272, ifc_f c_59_6273, ifc_t c_80_6274, ifc_f c_184_6275, ifc_f c_202_6276, ifc_f (q := (fnso jt) < 0) (Int32.not_lt.mpr c_35_6271), ifc_f (q := OUTS (nI ji) (fnsi jt) (nI jn)) (by rw [ejz, OUTS.iff (by omega) (by omega) (by omega)]; omega), ifc_t (q := ALS fnit (jt * 40) ji jn) hals, ifc_t (q := 24 < k6 + jn) (by have h9 : ¬ k6 + jn ≤ 24 := fun h8 => c_202_6276 ((nI_leI (a := k6 + jn) (b := 24) (by omega) (by decide)).mpr h8); omega)]; done) | (simp only [nI_clamp (n := jt) (by omega), nI_clamp (n := ji) (by omega), nI_clamp (n := jn) (by omega), ifc_t ekq, ifc_t hkq, ifc_t ek6, ifc_t hk6, ifc_t hN, ifc_t hV, ifc_t hZ, ifc_t a6266, ifc_t a6268, ifc_t a6270, ifc_t c_35_6271, ifc_t c_50_6272, ifc_f c_59_6273, ifc_t c_80_6274, ifc_f c_184_6275, ifc_f c_202_6276, ifc_f (q := (fnso jt) < 0) (Int32.not_lt.mpr c_35_6271), ifc_f (q := OUTS (nI ji) (fnsi jt) (nI jn)) (by rw [ejz, OUTS.iff (by omega) (by omega) (by omega)]; omega), ifc_t (q := ALS fnit (jt * 40) ji jn) hals, ifc_t (q := 24 < k6 + jn) (by have h9 : ¬ k6 + jn ≤ 24 := fun h8 => c_202_6276 ((nI_leI (a := k6 + jn) (b := 24) (by omega) (by decide)).mpr h8); omega)]; rfl)
                        have hK9 : STK (STA (nI jp) (nI jt) (nI ji) (nI jn) kq k6 fnso fnsi fnit) k6 = nI k6 := by unfold STK; rw [hA9]; exact ifc_t (by decide)
                        refine toQ hQ0 ?_
                        exact RI (v := (-2)) hC hP hD hS [0, 1, 2, 3, 4] fnw rfl rfl (by decide) (⟨hA9.symm, ⟨hN, hV, (by rw [hK9, ← ek6]; exact SCX.rf), FRO.rf, fun i hi9 => (by rw [hA9]; exact (ifc_t (by decide)).symm)⟩⟩) rfl gX12_stamps_11.2.2.2.2.1
                    · refine lv_bipush (v := (-4)) hx hb gX12_stamps_10.2.2.2.1 (by decide) ?_
                      have hA9 : STA (nI jp) (nI jt) (nI ji) (nI jn) kq k6 fnso fnsi fnit = (-4) := by unfold STA; first | (simp only [nI_clamp (n := jt) (by omega), nI_clamp (n := ji) (by omega), nI_clamp (n := jn) (by omega), ifc_t ekq, ifc_t hkq, ifc_t ek6, ifc_t hk6, ifc_t hN, ifc_t hV, ifc_t hZ, ifc_t a6266, ifc_t a6268, ifc_t a6270, ifc_t c_35_6271, ifc_t c_50_6272, ifc_f c_59_6273, ifc_t c_80_6274, ifc_t c_184_6275, ifc_f (q := (fnso jt) < 0) (Int32.not_lt.mpr c_35_6271), ifc_f (q := OUTS (nI ji) (fnsi jt) (nI jn)) (by rw [ejz, OUTS.iff (by omega) (by omega) (by omega)]; omega), ifc_f (q := ALS fnit (jt * 40) ji jn) (GX.f hgx c_184_6275)]; done) | (simp only [nI_clamp (n := jt) (by omega), nI_clamp (n := ji) (by omega), nI_clamp (n := jn) (by omega), ifc_t ekq, ifc_t hkq, ifc_t ek6, ifc_t hk6, ifc_t hN, ifc_t hV, ifc_t hZ, ifc_t a6266, ifc_t a6268, ifc_t a6270, ifc_t c_35_6271, ifc_t c_50_6272, ifc_f c_59_6273, ifc_t c_80_6274, ifc_t c_184_6275, ifc_f (q := (fnso jt) < 0) (Int32.not_lt.mpr c_35_6271), ifc_f (q := OUTS (nI ji) (fnsi jt) (nI jn)) (by rw [ejz, OUTS.iff (by omega) (by omega) (by omega)]; omega), ifc_f (q := ALS fnit (jt * 40) ji jn) (GX.f hgx c_184_6275)]; rfl)
                      have hK9 : STK (STA (nI jp) (nI jt) (nI ji) (nI jn) kq k6 fnso fnsi fnit) k6 = nI k6 := by unfold STK; rw [hA9]; exact ifc_t (by decide)
                      refine toQ hQ0 ?_
                      exact RI (v := (-4)) hC hP hD hS [0, 1, 2, 3, 4] fnw rfl rfl (by decide) (⟨hA9.symm, ⟨hN, hV, (by rw [hK9, ← ek6]; exact SCX.rf), FRO.rf, fun i hi9 => (by rw [hA9]; exact (ifc_t (by decide)).symm)⟩⟩) rfl gX12_stamps_10.2.2.2.2.1
                  | succ nP ihP =>
                    intro kP gd H locs ls hkP hgx hPD hS hl
                    refine Kan2 hPD (fun hP hD => ?_)
                    refine lv_iload hx hb gX12_stamps_6.2.2.2.2.1 (lv_at0 hl) ?_
                    refine lv_iload hx hb gX12_stamps_6.2.2.2.2.2.1 (lv_at8 hl) ?_
                    refine lv_icmp_ge (tgt := 182) hx hb gX12_stamps_6.2.2.2.2.2.2.1 (by decide) (fun c9 => absurd c9 (nI_ge (a := kP) (b := jn) (by omega) (by omega))) (fun _ => ?_)
                    refine lv_iload hx hb gX12_stamps_6.2.2.2.2.2.2.2.1 (lv_at1 hl) ?_
                    refine lv_if_eq (tgt := 173) hx hb gX12_stamps_6.2.2.2.2.2.2.2.2.1 (by decide) (fun c_122_6281 => ?_) (fun c_122_6281 => ?_)
                    · refine lv_iconst (v := 0) hx hb gX12_stamps_9.2.2.2.2.2.2.2.1 (by decide) ?_
                      refine lv_istore (lv' := [(7, .int 0), (8, .int (nI kP)), (6, .int (nI (40 * jt + ji))), (5, .int 0), (0, .ref h0), (1, .int (nI jp)), (2, .int (nI jt)), (3, .int (nI ji)), (4, .int (nI jn))]) hx hb gX12_stamps_9.2.2.2.2.2.2.2.2.1 hl (by decide) rfl (fun ls hl => ?_)
                      refine lv_iinc (v := nI (kP + 1)) (lv' := [(8, .int (nI (kP + 1))), (7, .int 0), (6, .int (nI (40 * jt + ji))), (5, .int 0), (0, .ref h0), (1, .int (nI jp)), (2, .int (nI jt)), (3, .int (nI ji)), (4, .int (nI jn))]) hx hb gX12_stamps_9.2.2.2.2.2.2.2.2.2 hl (k := 1) rfl (nI_1 _) (by decide) rfl (fun ls hl => ?_)
                      refine lv_goto (tgt := 113) hx hb gX12_stamps_10.1 (by decide) ?_
                      have hst9 : GX fnit (jt * 40) ji (kP + 1) 0 := GX.z hgx c_122_6281
                      exact ihP (kP + 1) 0 _ _ _ (by omega) (by first | assumption | exact Or.inl rfl | exact Or.inr rfl | exact GX.zero) (And.intro hP hD) hS (lv_sub hl [0, 1, 2, 3, 4, 5, 6, 7, 8] rfl)
                    · refine lv_aload_n hx hb gX12_stamps_6.2.2.2.2.2.2.2.2.2 rfl (lv_at4 hl) ?_
                      refine gf_X12_69 hC rfl hK hP 0 rfl rfl gX12_stamps_7.1 ?_
                      refine lv_iload hx hb gX12_stamps_7.2.1 (lv_at2 hl) ?_
                      refine lv_iconst (v := 2) hx hb gX12_stamps_7.2.2.1 (by decide) ?_
                      refine lv_iload hx hb gX12_stamps_7.2.2.2.1 (lv_at0 hl) ?_
                      refine lv_imul hx hb gX12_stamps_7.2.2.2.2.1 ?_
                      refine eqi (x1 := nI (2 * kP)) (nI_mul 2 kP) ?_
                      refine lv_iadd hx hb gX12_stamps_7.2.2.2.2.2.1 ?_
                      refine eqi (x1 := nI (40 * jt + ji + 2 * kP)) (nI_add (40 * jt + ji) (2 * kP)) ?_
                      refine aldN hC hK hP 4 rfl (k := (40 * jt + ji + 2 * kP)) (by omega) (Nat.le_of_ble_eq_true rfl) (v := fnit (40 * jt + ji + 2 * kP)) rfl gX12_stamps_7.2.2.2.2.2.2.1 ?_
                      refine lv_iconst (v := 0) hx hb gX12_stamps_7.2.2.2.2.2.2.2.1 (by decide) ?_
                      refine lv_iconst (v := 5) hx hb gX12_stamps_7.2.2.2.2.2.2.2.2.1 (by decide) ?_
                      refine pS hC hK hl (m_within l G (fnit (40 * jt + ji + 2 * kP)) 0 5) si_X12_84 rfl rfl (Nat.le_of_ble_eq_true rfl) rm_4_1_3 ⟨by first | exact Nat.le_of_ble_eq_true rfl | exact Nat.zero_le _, by first | exact Nat.le_of_ble_eq_true rfl | exact Nat.zero_le _⟩ gX12_stamps_7.2.2.2.2.2.2.2.2.2 (Kors (Keqa fun a6283 => ?_) (Keqa fun a6283 => ?_))
                      · refine lv_if_eq (tgt := 173) hx hb gX12_stamps_8.1 (by decide) (fun c9 => absurd c9 (by decide)) (fun _ => ?_)
                        refine lv_aload_n hx hb gX12_stamps_8.2.1 rfl (lv_at4 hl) ?_
                        refine gf_X12_69 hC rfl hK hP 0 rfl rfl gX12_stamps_8.2.2.1 ?_
                        refine lv_iload hx hb gX12_stamps_8.2.2.2.1 (lv_at2 hl) ?_
                        refine lv_iconst (v := 2) hx hb gX12_stamps_8.2.2.2.2.1 (by decide) ?_
                        refine lv_iload hx hb gX12_stamps_8.2.2.2.2.2.1 (lv_at0 hl) ?_
                        refine lv_imul hx hb gX12_stamps_8.2.2.2.2.2.2.1 ?_
                        refine eqi (x1 := nI (2 * kP)) (nI_mul 2 kP) ?_
                        refine lv_iadd hx hb gX12_stamps_8.2.2.2.2.2.2.2.1 ?_
                        refine eqi (x1 := nI (40 * jt + ji + 2 * kP)) (nI_add (40 * jt + ji) (2 * kP)) ?_
                        refine lv_iconst (v := 1) hx hb gX12_stamps_8.2.2.2.2.2.2.2.2.1 (by decide) ?_
                        refine lv_iadd hx hb gX12_stamps_8.2.2.2.2.2.2.2.2.2 ?_
                        refine eqi (x1 := nI (40 * jt + ji + 2 * kP + 1)) (nI_add (40 * jt + ji + 2 * kP) 1) ?_
                        refine aldN hC hK hP 4 rfl (k := (40 * jt + ji + 2 * kP + 1)) (by omega) (Nat.le_of_ble_eq_true rfl) (v := fnit (40 * jt + ji + 2 * kP + 1)) rfl gX12_stamps_9.1 ?_
                        refine lv_iconst (v := 0) hx hb gX12_stamps_9.2.1 (by decide) ?_
                        refine lv_sipush (v := 999) hx hb gX12_stamps_9.2.2.1 (by decide) ?_
                        refine pS hC hK hl (m_within l G (fnit (40 * jt + ji + 2 * kP + 1)) 0 999) si_X12_84 rfl rfl (Nat.le_of_ble_eq_true rfl) rm_4_1_3 ⟨by first | exact Nat.le_of_ble_eq_true rfl | exact Nat.zero_le _, by first | exact Nat.le_of_ble_eq_true rfl | exact Nat.zero_le _⟩ gX12_stamps_9.2.2.2.1 (Kors (Keqa fun a6285 => ?_) (Keqa fun a6285 => ?_))
                        · refine lv_if_eq (tgt := 173) hx hb gX12_stamps_9.2.2.2.2.1 (by decide) (fun c9 => absurd c9 (by decide)) (fun _ => ?_)
                          refine lv_iconst (v := 1) hx hb gX12_stamps_9.2.2.2.2.2.1 (by decide) ?_
                          refine lv_goto (tgt := 174) hx hb gX12_stamps_9.2.2.2.2.2.2.1 (by decide) ?_
                          refine lv_istore (lv' := [(7, .int 1), (8, .int (nI kP)), (6, .int (nI (40 * jt + ji))), (5, .int 0), (0, .ref h0), (1, .int (nI jp)), (2, .int (nI jt)), (3, .int (nI ji)), (4, .int (nI jn))]) hx hb gX12_stamps_9.2.2.2.2.2.2.2.2.1 hl (by decide) rfl (fun ls hl => ?_)
                          refine lv_iinc (v := nI (kP + 1)) (lv' := [(8, .int (nI (kP + 1))), (7, .int 1), (6, .int (nI (40 * jt + ji))), (5, .int 0), (0, .ref h0), (1, .int (nI jp)), (2, .int (nI jt)), (3, .int (nI ji)), (4, .int (nI jn))]) hx hb gX12_stamps_9.2.2.2.2.2.2.2.2.2 hl (k := 1) rfl (nI_1 _) (by decide) rfl (fun ls hl => ?_)
                          refine lv_goto (tgt := 113) hx hb gX12_stamps_10.1 (by decide) ?_
                          have hst9 : GX fnit (jt * 40) ji (kP + 1) 1 := GX.n hgx c_122_6281 (show fnit (40 * jt + ji + 2 * kP) = fnit (jt * 40 + (ji + 2 * kP)) from congrArg fnit (by omega)) (show fnit (40 * jt + ji + 2 * kP + 1) = fnit (jt * 40 + (ji + 2 * kP + 1)) from congrArg fnit (by omega)) a6283 a6285
                          exact ihP (kP + 1) 1 _ _ _ (by omega) (by first | assumption | exact Or.inl rfl | exact Or.inr rfl | exact GX.zero) (And.intro hP hD) hS (lv_sub hl [0, 1, 2, 3, 4, 5, 6, 7, 8] rfl)
                        · refine lv_if_eq (tgt := 173) hx hb gX12_stamps_9.2.2.2.2.1 (by decide) (fun _ => ?_) (fun c9 => absurd (by decide) c9)
                          refine lv_iconst (v := 0) hx hb gX12_stamps_9.2.2.2.2.2.2.2.1 (by decide) ?_
                          refine lv_istore (lv' := [(7, .int 0), (8, .int (nI kP)), (6, .int (nI (40 * jt + ji))), (5, .int 0), (0, .ref h0), (1, .int (nI jp)), (2, .int (nI jt)), (3, .int (nI ji)), (4, .int (nI jn))]) hx hb gX12_stamps_9.2.2.2.2.2.2.2.2.1 hl (by decide) rfl (fun ls hl => ?_)
                          refine lv_iinc (v := nI (kP + 1)) (lv' := [(8, .int (nI (kP + 1))), (7, .int 0), (6, .int (nI (40 * jt + ji))), (5, .int 0), (0, .ref h0), (1, .int (nI jp)), (2, .int (nI jt)), (3, .int (nI ji)), (4, .int (nI jn))]) hx hb gX12_stamps_9.2.2.2.2.2.2.2.2.2 hl (k := 1) rfl (nI_1 _) (by decide) rfl (fun ls hl => ?_)
                          refine lv_goto (tgt := 113) hx hb gX12_stamps_10.1 (by decide) ?_
                          have hst9 : GX fnit (jt * 40) ji (kP + 1) 0 := GX.b (show fnit (40 * jt + ji + 2 * kP + 1) = fnit (jt * 40 + (ji + 2 * kP + 1)) from congrArg fnit (by omega)) a6285
                          exact ihP (kP + 1) 0 _ _ _ (by omega) (by first | assumption | exact Or.inl rfl | exact Or.inr rfl | exact GX.zero) (And.intro hP hD) hS (lv_sub hl [0, 1, 2, 3, 4, 5, 6, 7, 8] rfl)
                      · refine lv_if_eq (tgt := 173) hx hb gX12_stamps_8.1 (by decide) (fun _ => ?_) (fun c9 => absurd (by decide) c9)
                        refine lv_iconst (v := 0) hx hb gX12_stamps_9.2.2.2.2.2.2.2.1 (by decide) ?_
                        refine lv_istore (lv' := [(7, .int 0), (8, .int (nI kP)), (6, .int (nI (40 * jt + ji))), (5, .int 0), (0, .ref h0), (1, .int (nI jp)), (2, .int (nI jt)), (3, .int (nI ji)), (4, .int (nI jn))]) hx hb gX12_stamps_9.2.2.2.2.2.2.2.2.1 hl (by decide) rfl (fun ls hl => ?_)
                        refine lv_iinc (v := nI (kP + 1)) (lv' := [(8, .int (nI (kP + 1))), (7, .int 0), (6, .int (nI (40 * jt + ji))), (5, .int 0), (0, .ref h0), (1, .int (nI jp)), (2, .int (nI jt)), (3, .int (nI ji)), (4, .int (nI jn))]) hx hb gX12_stamps_9.2.2.2.2.2.2.2.2.2 hl (k := 1) rfl (nI_1 _) (by decide) rfl (fun ls hl => ?_)
                        refine lv_goto (tgt := 113) hx hb gX12_stamps_10.1 (by decide) ?_
                        have hst9 : GX fnit (jt * 40) ji (kP + 1) 0 := GX.a (show fnit (40 * jt + ji + 2 * kP) = fnit (jt * 40 + (ji + 2 * kP)) from congrArg fnit (by omega)) a6283
                        exact ihP (kP + 1) 0 _ _ _ (by omega) (by first | assumption | exact Or.inl rfl | exact Or.inr rfl | exact GX.zero) (And.intro hP hD) hS (lv_sub hl [0, 1, 2, 3, 4, 5, 6, 7, 8] rfl)
                exact keyP jn 0 1 _ _ _ (by omega) (by first | assumption | exact Or.inl rfl | exact Or.inr rfl | exact GX.zero) (And.intro hP hD) hS (lv_sub hl [0, 1, 2, 3, 4, 5, 6, 7, 8] rfl)
              · refine lv_bipush (v := (-12)) hx hb gX12_stamps_4.2.2.2.2.2.2.1 (by decide) ?_
                refine lv_goto (tgt := 89) hx hb gX12_stamps_4.2.2.2.2.2.2.2.1 (by decide) ?_
                refine lv_istore (lv' := [(5, .int (-12)), (0, .ref h0), (1, .int (nI jp)), (2, .int (nI jt)), (3, .int (nI ji)), (4, .int (nI jn))]) hx hb gX12_stamps_4.2.2.2.2.2.2.2.2.2 hl (by decide) rfl (fun ls hl => ?_)
                refine lv_iload hx hb gX12_stamps_5.1 (lv_at0 hl) ?_
                refine lv_if_eq (tgt := 99) hx hb gX12_stamps_5.2.1 (by decide) (fun c9 => absurd c9 (by decide)) (fun _ => ?_)
                refine lv_iload hx hb gX12_stamps_5.2.2.1 (lv_at0 hl) ?_
                have hA9 : STA (nI jp) (nI jt) (nI ji) (nI jn) kq k6 fnso fnsi fnit = (-12) := by unfold STA; first | (simp only [nI_clamp (n := jt) (by omega), nI_clamp (n := ji) (by omega), nI_clamp (n := jn) (by omega), ifc_t ekq, ifc_t hkq, ifc_t ek6, ifc_t hk6, ifc_t hN, ifc_t hV, ifc_t hZ, ifc_t a6266, ifc_t a6268, ifc_t a6270, ifc_t c_35_6271, ifc_t c_50_6272, ifc_f c_59_6273, ifc_f c_80_6274, ifc_f (q := (fnso jt) < 0) (Int32.not_lt.mpr c_35_6271), ifc_t (q := OUTS (nI ji) (fnsi jt) (nI jn)) (Or.inr (by have h9 := st_out (ji := ji) (jn := jn) (k := jz) (by omega) (by omega) (by omega) c_80_6274; rw [ejz, nI_toInt (n := jz) (by omega), nI_toInt (n := ji) hji, nI_toInt (n := jn) (by omega)]; omega))]; done) | (simp only [nI_clamp (n := jt) (by omega), nI_clamp (n := ji) (by omega), nI_clamp (n := jn) (by omega), ifc_t ekq, ifc_t hkq, ifc_t ek6, ifc_t hk6, ifc_t hN, ifc_t hV, ifc_t hZ, ifc_t a6266, ifc_t a6268, ifc_t a6270, ifc_t c_35_6271, ifc_t c_50_6272, ifc_f c_59_6273, ifc_f c_80_6274, ifc_f (q := (fnso jt) < 0) (Int32.not_lt.mpr c_35_6271), ifc_t (q := OUTS (nI ji) (fnsi jt) (nI jn)) (Or.inr (by have h9 := st_out (ji := ji) (jn := jn) (k := jz) (by omega) (by omega) (by omega) c_80_6274; rw [ejz, nI_toInt (n := jz) (by omega), nI_toInt (n := ji) hji, nI_toInt (n := jn) (by omega)]; omega))]; rfl)
                have hK9 : STK (STA (nI jp) (nI jt) (nI ji) (nI jn) kq k6 fnso fnsi fnit) k6 = nI k6 := by unfold STK; rw [hA9]; exact ifc_t (by decide)
                refine toQ hQ0 ?_
                exact RI (v := (-12)) hC hP hD hS [0, 1, 2, 3, 4] fnw rfl rfl (by decide) (⟨hA9.symm, ⟨hN, hV, (by rw [hK9, ← ek6]; exact SCX.rf), FRO.rf, fun i hi9 => (by rw [hA9]; exact (ifc_t (by decide)).symm)⟩⟩) rfl gX12_stamps_5.2.2.2.1
          · refine lv_bipush (v := (-13)) hx hb gX12_stamps_2.2.2.2.2.2.2.2.2.1 (by decide) ?_
            refine lv_goto (tgt := 89) hx hb gX12_stamps_2.2.2.2.2.2.2.2.2.2 (by decide) ?_
            refine lv_istore (lv' := [(5, .int (-13)), (0, .ref h0), (1, .int (nI jp)), (2, .int (nI jt)), (3, .int x3), (4, .int (nI jn))]) hx hb gX12_stamps_4.2.2.2.2.2.2.2.2.2 hl (by decide) rfl (fun ls hl => ?_)
            refine lv_iload hx hb gX12_stamps_5.1 (lv_at0 hl) ?_
            refine lv_if_eq (tgt := 99) hx hb gX12_stamps_5.2.1 (by decide) (fun c9 => absurd c9 (by decide)) (fun _ => ?_)
            refine lv_iload hx hb gX12_stamps_5.2.2.1 (lv_at0 hl) ?_
            have hA9 : STA (nI jp) (nI jt) x3 (nI jn) kq k6 fnso fnsi fnit = (-13) := by unfold STA; first | (simp only [nI_clamp (n := jt) (by omega), nI_clamp (n := jn) (by omega), ifc_t ekq, ifc_t hkq, ifc_t ek6, ifc_t hk6, ifc_t hN, ifc_t hV, ifc_t hZ, ifc_t a6266, ifc_t a6268, ifc_t a6270, ifc_t c_35_6271, ifc_f c_50_6272, ifc_f (q := (fnso jt) < 0) (Int32.not_lt.mpr c_35_6271)]; done) | (simp only [nI_clamp (n := jt) (by omega), nI_clamp (n := jn) (by omega), ifc_t ekq, ifc_t hkq, ifc_t ek6, ifc_t hk6, ifc_t hN, ifc_t hV, ifc_t hZ, ifc_t a6266, ifc_t a6268, ifc_t a6270, ifc_t c_35_6271, ifc_f c_50_6272, ifc_f (q := (fnso jt) < 0) (Int32.not_lt.mpr c_35_6271)]; rfl)
            have hK9 : STK (STA (nI jp) (nI jt) x3 (nI jn) kq k6 fnso fnsi fnit) k6 = nI k6 := by unfold STK; rw [hA9]; exact ifc_t (by decide)
            refine toQ hQ0 ?_
            exact RI (v := (-13)) hC hP hD hS [0, 1, 2, 3, 4] fnw rfl rfl (by decide) (⟨hA9.symm, ⟨hN, hV, (by rw [hK9, ← ek6]; exact SCX.rf), FRO.rf, fun i hi9 => (by rw [hA9]; exact (ifc_t (by decide)).symm)⟩⟩) rfl gX12_stamps_5.2.2.2.1
        · refine lv_bipush (v := (-11)) hx hb gX12_stamps_2.1 (by decide) ?_
          refine lv_goto (tgt := 89) hx hb gX12_stamps_2.2.1 (by decide) ?_
          refine lv_istore (lv' := [(5, .int (-11)), (0, .ref h0), (1, .int (nI jp)), (2, .int (nI jt)), (3, .int x3), (4, .int (nI jn))]) hx hb gX12_stamps_4.2.2.2.2.2.2.2.2.2 hl (by decide) rfl (fun ls hl => ?_)
          refine lv_iload hx hb gX12_stamps_5.1 (lv_at0 hl) ?_
          refine lv_if_eq (tgt := 99) hx hb gX12_stamps_5.2.1 (by decide) (fun c9 => absurd c9 (by decide)) (fun _ => ?_)
          refine lv_iload hx hb gX12_stamps_5.2.2.1 (lv_at0 hl) ?_
          have hA9 : STA (nI jp) (nI jt) x3 (nI jn) kq k6 fnso fnsi fnit = (-11) := by unfold STA; first | (simp only [nI_clamp (n := jt) (by omega), nI_clamp (n := jn) (by omega), ifc_t ekq, ifc_t hkq, ifc_t ek6, ifc_t hk6, ifc_t hN, ifc_t hV, ifc_t hZ, ifc_t a6266, ifc_t a6268, ifc_t a6270, ifc_f c_35_6271, ifc_t (q := (fnso jt) < 0) (Int32.not_le.mp c_35_6271)]; done) | (simp only [nI_clamp (n := jt) (by omega), nI_clamp (n := jn) (by omega), ifc_t ekq, ifc_t hkq, ifc_t ek6, ifc_t hk6, ifc_t hN, ifc_t hV, ifc_t hZ, ifc_t a6266, ifc_t a6268, ifc_t a6270, ifc_f c_35_6271, ifc_t (q := (fnso jt) < 0) (Int32.not_le.mp c_35_6271)]; rfl)
          have hK9 : STK (STA (nI jp) (nI jt) x3 (nI jn) kq k6 fnso fnsi fnit) k6 = nI k6 := by unfold STK; rw [hA9]; exact ifc_t (by decide)
          refine toQ hQ0 ?_
          exact RI (v := (-11)) hC hP hD hS [0, 1, 2, 3, 4] fnw rfl rfl (by decide) (⟨hA9.symm, ⟨hN, hV, (by rw [hK9, ← ek6]; exact SCX.rf), FRO.rf, fun i hi9 => (by rw [hA9]; exact (ifc_t (by decide)).symm)⟩⟩) rfl gX12_stamps_5.2.2.2.1
      · refine lv_if_ne (tgt := 29) hx hb gX12_stamps_1.2.2.1 (by decide) (fun c9 => absurd (by decide) c9) (fun _ => ?_)
        refine lv_iconst (v := (-1)) hx hb gX12_stamps_1.2.2.2.1 (by decide) ?_
        have hA9 : STA x1 x2 x3 x4 kq k6 fnso fnsi fnit = (-1) := by unfold STA; first | (simp only [ifc_t ekq, ifc_t hkq, ifc_t ek6, ifc_t hk6, ifc_t hN, ifc_t hV, ifc_t hZ, ifc_t a6266, ifc_t a6268, ifc_f a6270]; done) | (simp only [ifc_t ekq, ifc_t hkq, ifc_t ek6, ifc_t hk6, ifc_t hN, ifc_t hV, ifc_t hZ, ifc_t a6266, ifc_t a6268, ifc_f a6270]; rfl)
        have hK9 : STK (STA x1 x2 x3 x4 kq k6 fnso fnsi fnit) k6 = nI k6 := by unfold STK; rw [hA9]; exact ifc_t (by decide)
        refine toQ hQ0 ?_
        exact RI (v := (-1)) hC hP hD hS [0, 1, 2, 3, 4] fnw rfl rfl (by decide) (⟨hA9.symm, ⟨hN, hV, (by rw [hK9, ← ek6]; exact SCX.rf), FRO.rf, fun i hi9 => (by rw [hA9]; exact (ifc_t (by decide)).symm)⟩⟩) rfl gX12_stamps_1.2.2.2.2.1
    · refine lv_if_eq (tgt := 27) hx hb gX12_stamps_0.2.2.2.2.2.2.2.1 (by decide) (fun _ => ?_) (fun c9 => absurd (by decide) c9)
      refine lv_iconst (v := (-1)) hx hb gX12_stamps_1.2.2.2.1 (by decide) ?_
      have hA9 : STA x1 x2 x3 x4 kq k6 fnso fnsi fnit = (-1) := by unfold STA; first | (simp only [ifc_t ekq, ifc_t hkq, ifc_t ek6, ifc_t hk6, ifc_t hN, ifc_t hV, ifc_t hZ, ifc_t a6266, ifc_f a6268]; done) | (simp only [ifc_t ekq, ifc_t hkq, ifc_t ek6, ifc_t hk6, ifc_t hN, ifc_t hV, ifc_t hZ, ifc_t a6266, ifc_f a6268]; rfl)
      have hK9 : STK (STA x1 x2 x3 x4 kq k6 fnso fnsi fnit) k6 = nI k6 := by unfold STK; rw [hA9]; exact ifc_t (by decide)
      refine toQ hQ0 ?_
      exact RI (v := (-1)) hC hP hD hS [0, 1, 2, 3, 4] fnw rfl rfl (by decide) (⟨hA9.symm, ⟨hN, hV, (by rw [hK9, ← ek6]; exact SCX.rf), FRO.rf, fun i hi9 => (by rw [hA9]; exact (ifc_t (by decide)).symm)⟩⟩) rfl gX12_stamps_1.2.2.2.2.1
  · refine lv_if_eq (tgt := 27) hx hb gX12_stamps_0.2.2.2.2.1 (by decide) (fun _ => ?_) (fun c9 => absurd (by decide) c9)
    refine lv_iconst (v := (-1)) hx hb gX12_stamps_1.2.2.2.1 (by decide) ?_
    have hA9 : STA x1 x2 x3 x4 kq k6 fnso fnsi fnit = (-1) := by unfold STA; first | (simp only [ifc_t ekq, ifc_t hkq, ifc_t ek6, ifc_t hk6, ifc_t hN, ifc_t hV, ifc_t hZ, ifc_f a6266]; done) | (simp only [ifc_t ekq, ifc_t hkq, ifc_t ek6, ifc_t hk6, ifc_t hN, ifc_t hV, ifc_t hZ, ifc_f a6266]; rfl)
    have hK9 : STK (STA x1 x2 x3 x4 kq k6 fnso fnsi fnit) k6 = nI k6 := by unfold STK; rw [hA9]; exact ifc_t (by decide)
    refine toQ hQ0 ?_
    exact RI (v := (-1)) hC hP hD hS [0, 1, 2, 3, 4] fnw rfl rfl (by decide) (⟨hA9.symm, ⟨hN, hV, (by rw [hK9, ← ek6]; exact SCX.rf), FRO.rf, fun i hi9 => (by rw [hA9]; exact (ifc_t (by decide)).symm)⟩⟩) rfl gX12_stamps_1.2.2.2.2.1
def K_w_shelf (l : Launch) (G : GG) (kq : Nat) (k8 : Nat) (k9 : Nat) (h0 : Nat) (x1 : Int32) (x2 : Int32) (x3 : Int32) (nw : Nat) (nk : Nat) (mhasKept : Int32) (nt : Nat) (mtaped : Int32) (nr : Nat) (mrowMany : Int32) (mroundOf : Int32) (mroundFrom : Int32) (mouts : Int32) (nm : Nat) (mfromHour : Int32) (mtoHour : Int32) (ns : Nat) (mfrom : Int32) (mto : Int32) (msort : Int32) (misFault : Int32) (mdeep : Int32) (mcoded : Int32) (mlines : Int32) (nl : Nat) (nc : Nat) (nF : Nat) (np : Nat) (ntr : Nat) (nb : Nat) (mbestCost : Int32) (nso : Nat) (nsi : Nat) (nit : Nat) (nsh : Nat) (nsf : Nat) (nss : Nat) (nrc : Nat) (mtraced : Int32) (mdealer : Int32) (mnumber : Int32) (mwhose : Int32) (msize : Int32) (misParted : Int32) (fnw : Nat → Int32) (fnso : Nat → Int32) (fnsi : Nat → Int32) (fnsh : Nat → Int32) (fnsf : Nat → Int32) (fnss : Nat → Int32) : Prop := MI l G yX12_shelf cX12_shelf 6 (some .int) 3 0 0 [.ref h0, .int x1, .int x2, .int x3] [(h0, oX12 nw nk mhasKept nt mtaped nr mrowMany mroundOf mroundFrom mouts nm mfromHour mtoHour ns mfrom mto msort misFault mdeep mcoded mlines nl nc nF np ntr nb mbestCost nso nsi nit nsh nsf nss nrc mtraced mdealer mnumber mwhose msize misParted), (nw, iA G 1662 fnw), (nso, iA G 4 fnso), (nsi, iA G 4 fnsi), (nsh, iA G 4 fnsh), (nsf, iA G 4 fnsf), (nss, iA G 4 fnss)] (fun (r : Int32) (u : (Nat → Int32) × (Nat → Int32) × (Nat → Int32)) => (r = SHX x1 x2 x3 kq k8 k9) ∧ ((SHX x1 x2 x3 kq k8 k9 = 1 → ∃ a9 b9 c9 : Int32, u.1 = upd fnsh x1.toNatClampNeg a9 ∧ u.2.1 = upd fnsf x1.toNatClampNeg b9 ∧ u.2.2 = upd fnss x1.toNatClampNeg c9 ∧ SLV x2 x3 (fnso x3.toNatClampNeg) (fnsi x3.toNatClampNeg) a9 b9 c9) ∧ (¬ SHX x1 x2 x3 kq k8 k9 = 1 → u.1 = fnsh ∧ u.2.1 = fnsf ∧ u.2.2 = fnss))) (fun u : (Nat → Int32) × (Nat → Int32) × (Nat → Int32) => [(h0, oX12 nw nk mhasKept nt mtaped nr mrowMany mroundOf mroundFrom mouts nm mfromHour mtoHour ns mfrom mto msort misFault mdeep mcoded mlines nl nc nF np ntr nb mbestCost nso nsi nit nsh nsf nss nrc mtraced mdealer mnumber mwhose msize misParted), (nw, iA G 1662 fnw), (nso, iA G 4 fnso), (nsi, iA G 4 fnsi), (nsh, iA G 4 u.1), (nsf, iA G 4 u.2.1), (nss, iA G 4 u.2.2)])
set_option maxHeartbeats 4000000 in
set_option maxRecDepth 100000 in
theorem w_shelf (l : Launch) (G : GG) (kq : Nat) (k8 : Nat) (k9 : Nat) (h0 : Nat) (x1 : Int32) (x2 : Int32) (x3 : Int32) (nw : Nat) (nk : Nat) (mhasKept : Int32) (nt : Nat) (mtaped : Int32) (nr : Nat) (mrowMany : Int32) (mroundOf : Int32) (mroundFrom : Int32) (mouts : Int32) (nm : Nat) (mfromHour : Int32) (mtoHour : Int32) (ns : Nat) (mfrom : Int32) (mto : Int32) (msort : Int32) (misFault : Int32) (mdeep : Int32) (mcoded : Int32) (mlines : Int32) (nl : Nat) (nc : Nat) (nF : Nat) (np : Nat) (ntr : Nat) (nb : Nat) (mbestCost : Int32) (nso : Nat) (nsi : Nat) (nit : Nat) (nsh : Nat) (nsf : Nat) (nss : Nat) (nrc : Nat) (mtraced : Int32) (mdealer : Int32) (mnumber : Int32) (mwhose : Int32) (msize : Int32) (misParted : Int32) (fnw : Nat → Int32) (fnso : Nat → Int32) (fnsi : Nat → Int32) (fnsh : Nat → Int32) (fnsf : Nat → Int32) (fnss : Nat → Int32) (ekq : fnw 5 = nI kq) (ek8 : fnw 8 = nI k8) (ek9 : fnw 9 = nI k9) (hkq : kq ≤ 12) (hk8 : k8 ≤ 16) (hk9 : k9 ≤ 12) : K_w_shelf l G kq k8 k9 h0 x1 x2 x3 nw nk mhasKept nt mtaped nr mrowMany mroundOf mroundFrom mouts nm mfromHour mtoHour ns mfrom mto msort misFault mdeep mcoded mlines nl nc nF np ntr nb mbestCost nso nsi nit nsh nsf nss nrc mtraced mdealer mnumber mwhose msize misParted fnw fnso fnsi fnsh fnsf fnss := by
  refine MI.start (by decide +kernel) (Nat.le_of_ble_eq_true rfl) ?_
  intro p e s m below meth c A ls hC hK hP hD hS hA hl
  refine absQ (fun Q0 hQ0 => ?_)
  have hl : lv_has ls 6 [(0, .ref h0), (1, .int x1), (2, .int x2), (3, .int x3)] := hl
  refine Kan8 hC (fun hx hb hr hml hB hown hlocks hnm => ?_)
  refine lv_iload_n hx hb gX12_shelf_0.1 rfl (lv_at2 hl) ?_
  refine lv_if_ne (tgt := 13) hx hb gX12_shelf_0.2.1 (by decide) (fun c_1_6286 => ?_) (fun c_1_6286 => ?_)
  · refine lv_iload_n hx hb gX12_shelf_0.2.2.2.2.2.2.2.1 rfl (lv_at2 hl) ?_
    refine lv_iconst (v := 1) hx hb gX12_shelf_0.2.2.2.2.2.2.2.2.1 (by decide) ?_
    refine lv_icmp_ne (tgt := 28) hx hb gX12_shelf_0.2.2.2.2.2.2.2.2.2 (by decide) (fun c_15_6287 => ?_) (fun c_15_6287 => ?_)
    · refine lv_iload_n hx hb gX12_shelf_1.2.2.2.2.2.1 rfl (lv_at2 hl) ?_
      refine lv_iconst (v := 2) hx hb gX12_shelf_1.2.2.2.2.2.2.1 (by decide) ?_
      refine lv_icmp_ne (tgt := 43) hx hb gX12_shelf_1.2.2.2.2.2.2.2.1 (by decide) (fun c_30_6288 => ?_) (fun c_30_6288 => ?_)
      · refine lv_iload_n hx hb gX12_shelf_2.2.2.2.1 rfl (lv_at2 hl) ?_
        refine lv_iconst (v := 3) hx hb gX12_shelf_2.2.2.2.2.1 (by decide) ?_
        refine lv_icmp_ne (tgt := 55) hx hb gX12_shelf_2.2.2.2.2.2.1 (by decide) (fun c_45_6289 => ?_) (fun c_45_6289 => ?_)
        · refine lv_iconst (v := 1) hx hb gX12_shelf_2.2.2.2.2.2.2.2.2.2 (by decide) ?_
          refine lv_goto (tgt := 60) hx hb gX12_shelf_3.1 (by decide) ?_
          refine lv_istore (lv' := [(4, .int 1), (0, .ref h0), (1, .int x1), (2, .int x2), (3, .int x3)]) hx hb gX12_shelf_3.2.2.1 hl (by decide) rfl (fun ls hl => ?_)
          refine lv_iload_n hx hb gX12_shelf_3.2.2.2.1 rfl (lv_at2 hl) ?_
          refine pS hC hK hl (m_isFour l G x1) si_X12_336 rfl rfl (Nat.le_of_ble_eq_true rfl) rm_3_2_1 ⟨by first | exact Nat.le_of_ble_eq_true rfl | exact Nat.zero_le _, by first | exact Nat.le_of_ble_eq_true rfl | exact Nat.zero_le _⟩ gX12_shelf_3.2.2.2.2.1 (Kors (Keqa fun a6291 => ?_) (Keqa fun a6291 => ?_))
          · refine lv_if_eq (tgt := 83) hx hb gX12_shelf_3.2.2.2.2.2.1 (by decide) (fun c9 => absurd c9 (by decide)) (fun _ => ?_)
            refine lv_iload_n hx hb gX12_shelf_3.2.2.2.2.2.2.1 rfl (lv_at3 hl) ?_
            refine lv_iconst (v := 0) hx hb gX12_shelf_3.2.2.2.2.2.2.2.1 (by decide) ?_
            refine lv_iconst (v := 4) hx hb gX12_shelf_3.2.2.2.2.2.2.2.2.1 (by decide) ?_
            refine pS hC hK hl (m_within l G x2 0 4) si_X12_84 rfl rfl (Nat.le_of_ble_eq_true rfl) rm_3_1_3 ⟨by first | exact Nat.le_of_ble_eq_true rfl | exact Nat.zero_le _, by first | exact Nat.le_of_ble_eq_true rfl | exact Nat.zero_le _⟩ gX12_shelf_3.2.2.2.2.2.2.2.2.2 (Kors (Keqa fun a6293 => ?_) (Keqa fun a6293 => ?_))
            · refine lv_if_eq (tgt := 83) hx hb gX12_shelf_4.1 (by decide) (fun c9 => absurd c9 (by decide)) (fun _ => ?_)
              refine lv_iload hx hb gX12_shelf_4.2.1 (lv_at0 hl) ?_
              refine lv_if_ne (tgt := 85) hx hb gX12_shelf_4.2.2.1 (by decide) (fun _ => ?_) (fun c9 => absurd c9 (by decide))
              obtain ⟨js, hjs, rfl⟩ := Wi_nat (N := 3) (by decide) a6291
              obtain rfl : x2 = 4 := Wi4_4 a6293 c_1_6286 c_15_6287 c_30_6288 c_45_6289
              refine lv_iload_n hx hb gX12_shelf_4.2.2.2.2.2.1 rfl (lv_at3 hl) ?_
              refine lv_iconst (v := 4) hx hb gX12_shelf_4.2.2.2.2.2.2.1 (by decide) ?_
              refine lv_icmp_eq (tgt := 104) hx hb gX12_shelf_4.2.2.2.2.2.2.2.1 (by decide) (fun _ => ?_) (fun c9 => absurd (by decide) c9)
              refine lv_iconst (v := 1) hx hb gX12_shelf_5.2.2.2.2.2.2.1 (by decide) ?_
              refine lv_goto (tgt := 109) hx hb gX12_shelf_5.2.2.2.2.2.2.2.1 (by decide) ?_
              refine lv_istore (lv' := [(5, .int 1), (4, .int 1), (0, .ref h0), (1, .int (nI js)), (2, .int 4), (3, .int x3)]) hx hb gX12_shelf_5.2.2.2.2.2.2.2.2.2 hl (by decide) rfl (fun ls hl => ?_)
              refine lv_aload_n hx hb gX12_shelf_6.1 rfl (lv_at2 hl) ?_
              refine gf_X12_72 hC rfl hK hP 0 rfl rfl gX12_shelf_6.2.1 ?_
              refine lv_iload_n hx hb gX12_shelf_6.2.2.1 rfl (lv_at3 hl) ?_
              refine lv_iload hx hb gX12_shelf_6.2.2.2.1 (lv_at0 hl) ?_
              refine lv_if_eq (tgt := 125) hx hb gX12_shelf_6.2.2.2.2.1 (by decide) (fun c9 => absurd c9 (by decide)) (fun _ => ?_)
              refine lv_iconst (v := 0) hx hb gX12_shelf_6.2.2.2.2.2.1 (by decide) ?_
              refine lv_goto (tgt := 128) hx hb gX12_shelf_6.2.2.2.2.2.2.1 (by decide) ?_
              refine astN hC hK hP hD hS 4 (ws' := [(h0, oX12 nw nk mhasKept nt mtaped nr mrowMany mroundOf mroundFrom mouts nm mfromHour mtoHour ns mfrom mto msort misFault mdeep mcoded mlines nl nc nF np ntr nb mbestCost nso nsi nit nsh nsf nss nrc mtraced mdealer mnumber mwhose msize misParted), (nw, iA G 1662 fnw), (nso, iA G 4 fnso), (nsi, iA G 4 fnsi), (nsh, iA G 4 (upd fnsh js 0)), (nsf, iA G 4 fnsf), (nss, iA G 4 fnss)]) rfl (k := js) (by omega) (Nat.le_of_ble_eq_true rfl) (rfl) gX12_shelf_7.1 (fun H locs hP hD hS => ?_)
              refine lv_aload_n hx hb gX12_shelf_7.2.1 rfl (lv_at2 hl) ?_
              refine gf_X12_75 hC rfl hK hP 0 rfl rfl gX12_shelf_7.2.2.1 ?_
              refine lv_iload_n hx hb gX12_shelf_7.2.2.2.1 rfl (lv_at3 hl) ?_
              refine lv_iload hx hb gX12_shelf_7.2.2.2.2.1 (lv_at0 hl) ?_
              refine lv_if_eq (tgt := 143) hx hb gX12_shelf_7.2.2.2.2.2.1 (by decide) (fun c9 => absurd c9 (by decide)) (fun _ => ?_)
              refine lv_iconst (v := 0) hx hb gX12_shelf_7.2.2.2.2.2.2.1 (by decide) ?_
              refine lv_goto (tgt := 158) hx hb gX12_shelf_7.2.2.2.2.2.2.2.1 (by decide) ?_
              refine astN hC hK hP hD hS 5 (ws' := [(h0, oX12 nw nk mhasKept nt mtaped nr mrowMany mroundOf mroundFrom mouts nm mfromHour mtoHour ns mfrom mto msort misFault mdeep mcoded mlines nl nc nF np ntr nb mbestCost nso nsi nit nsh nsf nss nrc mtraced mdealer mnumber mwhose msize misParted), (nw, iA G 1662 fnw), (nso, iA G 4 fnso), (nsi, iA G 4 fnsi), (nsh, iA G 4 (upd fnsh js 0)), (nsf, iA G 4 (upd fnsf js 0)), (nss, iA G 4 fnss)]) rfl (k := js) (by omega) (Nat.le_of_ble_eq_true rfl) (rfl) gX12_shelf_8.2.2.2.2.2.2.2.1 (fun H locs hP hD hS => ?_)
              refine lv_aload_n hx hb gX12_shelf_8.2.2.2.2.2.2.2.2.1 rfl (lv_at2 hl) ?_
              refine gf_X12_78 hC rfl hK hP 0 rfl rfl gX12_shelf_8.2.2.2.2.2.2.2.2.2 ?_
              refine lv_iload_n hx hb gX12_shelf_9.1 rfl (lv_at3 hl) ?_
              refine lv_iload hx hb gX12_shelf_9.2.1 (lv_at0 hl) ?_
              refine lv_if_ne (tgt := 174) hx hb gX12_shelf_9.2.2.1 (by decide) (fun _ => ?_) (fun c9 => absurd c9 (by decide))
              refine lv_iconst (v := 0) hx hb gX12_shelf_9.2.2.2.2.2.2.1 (by decide) ?_
              refine lv_goto (tgt := 184) hx hb gX12_shelf_9.2.2.2.2.2.2.2.1 (by decide) ?_
              refine astN hC hK hP hD hS 6 (ws' := [(h0, oX12 nw nk mhasKept nt mtaped nr mrowMany mroundOf mroundFrom mouts nm mfromHour mtoHour ns mfrom mto msort misFault mdeep mcoded mlines nl nc nF np ntr nb mbestCost nso nsi nit nsh nsf nss nrc mtraced mdealer mnumber mwhose msize misParted), (nw, iA G 1662 fnw), (nso, iA G 4 fnso), (nsi, iA G 4 fnsi), (nsh, iA G 4 (upd fnsh js 0)), (nsf, iA G 4 (upd fnsf js 0)), (nss, iA G 4 (upd fnss js 0))]) rfl (k := js) (by omega) (Nat.le_of_ble_eq_true rfl) (rfl) gX12_shelf_10.2.2.1 (fun H locs hP hD hS => ?_)
              refine lv_iconst (v := 1) hx hb gX12_shelf_10.2.2.2.1 (by decide) ?_
              refine toQ hQ0 ?_
              exact RI (v := 1) hC hP hD hS [0, 1, 2, 3, 4, 5, 6] (upd fnsh js 0, upd fnsf js 0, upd fnss js 0) rfl rfl (by decide) (⟨(by unfold SHX; first | rfl | (simp only [ifc_t ekq, ifc_t ek8, ifc_t ek9, ifc_t hkq, ifc_t hk8, ifc_t hk9, ifc_f c_1_6286, ifc_f c_15_6287, ifc_f c_30_6288, ifc_f c_45_6289, ifc_t a6291, ifc_t a6293, ifc_t trivial, ifc_f (q := False) (fun h9 => h9), ifc_f (q := (4 : Int32) = 0) (by decide), ifc_f (q := (4 : Int32) = 1) (by decide), ifc_f (q := (4 : Int32) = 2) (by decide), ifc_f (q := (4 : Int32) = 3) (by decide), ifc_t (q := (4 : Int32) = 4) rfl]; done) | (simp only [ifc_t ekq, ifc_t ek8, ifc_t ek9, ifc_t hkq, ifc_t hk8, ifc_t hk9, ifc_f c_1_6286, ifc_f c_15_6287, ifc_f c_30_6288, ifc_f c_45_6289, ifc_t a6291, ifc_t a6293, ifc_t trivial, ifc_f (q := False) (fun h9 => h9), ifc_f (q := (4 : Int32) = 0) (by decide), ifc_f (q := (4 : Int32) = 1) (by decide), ifc_f (q := (4 : Int32) = 2) (by decide), ifc_f (q := (4 : Int32) = 3) (by decide), ifc_t (q := (4 : Int32) = 4) rfl]; rfl)), ⟨fun _ => ⟨0, 0, 0, (by rw [nI_clamp (n := js) (by omega)]; exact ⟨rfl, rfl, rfl, ⟨fun h9 => absurd h9 (by decide), fun _ => rfl, fun h9 => absurd h9 (by decide)⟩⟩)⟩, fun h9 => absurd (by unfold SHX; simp only [ifc_t ekq, ifc_t ek8, ifc_t ek9, ifc_t hkq, ifc_t hk8, ifc_t hk9, ifc_f c_1_6286, ifc_f c_15_6287, ifc_f c_30_6288, ifc_f c_45_6289, ifc_t a6291, ifc_t a6293, ifc_t trivial, ifc_f (q := False) (fun h9 => h9), ifc_f (q := (4 : Int32) = 0) (by decide), ifc_f (q := (4 : Int32) = 1) (by decide), ifc_f (q := (4 : Int32) = 2) (by decide), ifc_f (q := (4 : Int32) = 3) (by decide), ifc_t (q := (4 : Int32) = 4) rfl]) h9⟩⟩) rfl gX12_shelf_10.2.2.2.2
            · refine lv_if_eq (tgt := 83) hx hb gX12_shelf_4.1 (by decide) (fun _ => ?_) (fun c9 => absurd (by decide) c9)
              refine lv_iconst (v := (-1)) hx hb gX12_shelf_4.2.2.2.1 (by decide) ?_
              refine toQ hQ0 ?_
              exact RI (v := (-1)) hC hP hD hS [0, 1, 2, 3, 4, 5, 6] (fnsh, fnsf, fnss) rfl rfl (by decide) (⟨(by unfold SHX; first | rfl | (simp only [ifc_t ekq, ifc_t ek8, ifc_t ek9, ifc_t hkq, ifc_t hk8, ifc_t hk9, ifc_f c_1_6286, ifc_f c_15_6287, ifc_f c_30_6288, ifc_f c_45_6289, ifc_t a6291, ifc_f a6293, ifc_t trivial, ifc_f (q := False) (fun h9 => h9), ifc_f (q := x2 = 4) (fun h9 => a6293 (by rw [h9]; unfold Wi; decide))]; done) | (simp only [ifc_t ekq, ifc_t ek8, ifc_t ek9, ifc_t hkq, ifc_t hk8, ifc_t hk9, ifc_f c_1_6286, ifc_f c_15_6287, ifc_f c_30_6288, ifc_f c_45_6289, ifc_t a6291, ifc_f a6293, ifc_t trivial, ifc_f (q := False) (fun h9 => h9), ifc_f (q := x2 = 4) (fun h9 => a6293 (by rw [h9]; unfold Wi; decide))]; rfl)), ⟨fun h9 => absurd ((show SHX x1 x2 x3 kq k8 k9 = (-1) from by unfold SHX; simp only [ifc_t ekq, ifc_t ek8, ifc_t ek9, ifc_t hkq, ifc_t hk8, ifc_t hk9, ifc_f c_1_6286, ifc_f c_15_6287, ifc_f c_30_6288, ifc_f c_45_6289, ifc_t a6291, ifc_f a6293, ifc_t trivial, ifc_f (q := False) (fun h9 => h9), ifc_f (q := x2 = 4) (fun h9 => a6293 (by rw [h9]; unfold Wi; decide))]).symm.trans h9) (by decide), fun _ => ⟨rfl, rfl, rfl⟩⟩⟩) rfl gX12_shelf_4.2.2.2.2.1
          · refine lv_if_eq (tgt := 83) hx hb gX12_shelf_3.2.2.2.2.2.1 (by decide) (fun _ => ?_) (fun c9 => absurd (by decide) c9)
            refine lv_iconst (v := (-1)) hx hb gX12_shelf_4.2.2.2.1 (by decide) ?_
            refine toQ hQ0 ?_
            exact RI (v := (-1)) hC hP hD hS [0, 1, 2, 3, 4, 5, 6] (fnsh, fnsf, fnss) rfl rfl (by decide) (⟨(by unfold SHX; first | rfl | (simp only [ifc_t ekq, ifc_t ek8, ifc_t ek9, ifc_t hkq, ifc_t hk8, ifc_t hk9, ifc_f c_1_6286, ifc_f c_15_6287, ifc_f c_30_6288, ifc_f c_45_6289, ifc_f a6291, ifc_t trivial, ifc_f (q := False) (fun h9 => h9)]; done) | (simp only [ifc_t ekq, ifc_t ek8, ifc_t ek9, ifc_t hkq, ifc_t hk8, ifc_t hk9, ifc_f c_1_6286, ifc_f c_15_6287, ifc_f c_30_6288, ifc_f c_45_6289, ifc_f a6291, ifc_t trivial, ifc_f (q := False) (fun h9 => h9)]; rfl)), ⟨fun h9 => absurd ((show SHX x1 x2 x3 kq k8 k9 = (-1) from by unfold SHX; simp only [ifc_t ekq, ifc_t ek8, ifc_t ek9, ifc_t hkq, ifc_t hk8, ifc_t hk9, ifc_f c_1_6286, ifc_f c_15_6287, ifc_f c_30_6288, ifc_f c_45_6289, ifc_f a6291, ifc_t trivial, ifc_f (q := False) (fun h9 => h9)]).symm.trans h9) (by decide), fun _ => ⟨rfl, rfl, rfl⟩⟩⟩) rfl gX12_shelf_4.2.2.2.2.1
        · obtain rfl : x2 = 3 := c_45_6289
          refine lv_iload_n hx hb gX12_shelf_2.2.2.2.2.2.2.1 rfl (lv_at3 hl) ?_
          refine pS hC hK hl (m_isFour l G x3) si_X12_336 rfl rfl (Nat.le_of_ble_eq_true rfl) rm_3_2_1 ⟨by first | exact Nat.le_of_ble_eq_true rfl | exact Nat.zero_le _, by first | exact Nat.le_of_ble_eq_true rfl | exact Nat.zero_le _⟩ gX12_shelf_2.2.2.2.2.2.2.2.1 (Kors (Keqa fun a6295 => ?_) (Keqa fun a6295 => ?_))
          · refine lv_if_eq (tgt := 59) hx hb gX12_shelf_2.2.2.2.2.2.2.2.2.1 (by decide) (fun c9 => absurd c9 (by decide)) (fun _ => ?_)
            refine lv_iconst (v := 1) hx hb gX12_shelf_2.2.2.2.2.2.2.2.2.2 (by decide) ?_
            refine lv_goto (tgt := 60) hx hb gX12_shelf_3.1 (by decide) ?_
            refine lv_istore (lv' := [(4, .int 1), (0, .ref h0), (1, .int x1), (2, .int 3), (3, .int x3)]) hx hb gX12_shelf_3.2.2.1 hl (by decide) rfl (fun ls hl => ?_)
            refine lv_iload_n hx hb gX12_shelf_3.2.2.2.1 rfl (lv_at2 hl) ?_
            refine pS hC hK hl (m_isFour l G x1) si_X12_336 rfl rfl (Nat.le_of_ble_eq_true rfl) rm_3_2_1 ⟨by first | exact Nat.le_of_ble_eq_true rfl | exact Nat.zero_le _, by first | exact Nat.le_of_ble_eq_true rfl | exact Nat.zero_le _⟩ gX12_shelf_3.2.2.2.2.1 (Kors (Keqa fun a6297 => ?_) (Keqa fun a6297 => ?_))
            · refine lv_if_eq (tgt := 83) hx hb gX12_shelf_3.2.2.2.2.2.1 (by decide) (fun c9 => absurd c9 (by decide)) (fun _ => ?_)
              refine lv_iload_n hx hb gX12_shelf_3.2.2.2.2.2.2.1 rfl (lv_at3 hl) ?_
              refine lv_iconst (v := 0) hx hb gX12_shelf_3.2.2.2.2.2.2.2.1 (by decide) ?_
              refine lv_iconst (v := 4) hx hb gX12_shelf_3.2.2.2.2.2.2.2.2.1 (by decide) ?_
              refine pS hC hK hl (m_within l G 3 0 4) si_X12_84 rfl rfl (Nat.le_of_ble_eq_true rfl) rm_3_1_3 ⟨by first | exact Nat.le_of_ble_eq_true rfl | exact Nat.zero_le _, by first | exact Nat.le_of_ble_eq_true rfl | exact Nat.zero_le _⟩ gX12_shelf_3.2.2.2.2.2.2.2.2.2 (Kors (Keqa fun a6299 => ?_) (Keqa fun a6299 => ?_))
              · refine lv_if_eq (tgt := 83) hx hb gX12_shelf_4.1 (by decide) (fun c9 => absurd c9 (by decide)) (fun _ => ?_)
                refine lv_iload hx hb gX12_shelf_4.2.1 (lv_at0 hl) ?_
                refine lv_if_ne (tgt := 85) hx hb gX12_shelf_4.2.2.1 (by decide) (fun _ => ?_) (fun c9 => absurd c9 (by decide))
                obtain ⟨js, hjs, rfl⟩ := Wi_nat (N := 3) (by decide) a6297
                refine lv_iload_n hx hb gX12_shelf_4.2.2.2.2.2.1 rfl (lv_at3 hl) ?_
                refine lv_iconst (v := 4) hx hb gX12_shelf_4.2.2.2.2.2.2.1 (by decide) ?_
                refine lv_icmp_eq (tgt := 104) hx hb gX12_shelf_4.2.2.2.2.2.2.2.1 (by decide) (fun c9 => absurd c9 (by decide)) (fun _ => ?_)
                refine lv_iload_n hx hb gX12_shelf_4.2.2.2.2.2.2.2.2.1 rfl (lv_at3 hl) ?_
                refine lv_iconst (v := 3) hx hb gX12_shelf_4.2.2.2.2.2.2.2.2.2 (by decide) ?_
                refine lv_icmp_ne (tgt := 108) hx hb gX12_shelf_5.1 (by decide) (fun c9 => absurd (by decide) c9) (fun _ => ?_)
                obtain ⟨jn, hjn, rfl⟩ := Wi_nat (N := 3) (by decide) a6295
                refine lv_aload_n hx hb gX12_shelf_5.2.1 rfl (lv_at1 hl) ?_
                refine gf_X12_63 hC rfl hK hP 0 rfl rfl gX12_shelf_5.2.2.1 ?_
                refine lv_iload_n hx hb gX12_shelf_5.2.2.2.1 rfl (lv_at4 hl) ?_
                refine aldN hC hK hP 2 rfl (k := jn) (by omega) (Nat.le_of_ble_eq_true rfl) (v := fnso jn) rfl gX12_shelf_5.2.2.2.2.1 ?_
                refine lv_if_ge (tgt := 108) hx hb gX12_shelf_5.2.2.2.2.2.1 (by decide) (fun c_101_6300 => ?_) (fun c_101_6300 => ?_)
                · refine lv_iconst (v := 0) hx hb gX12_shelf_5.2.2.2.2.2.2.2.2.1 (by decide) ?_
                  refine lv_istore (lv' := [(5, .int 0), (4, .int 1), (0, .ref h0), (1, .int (nI js)), (2, .int 3), (3, .int (nI jn))]) hx hb gX12_shelf_5.2.2.2.2.2.2.2.2.2 hl (by decide) rfl (fun ls hl => ?_)
                  refine lv_aload_n hx hb gX12_shelf_6.1 rfl (lv_at2 hl) ?_
                  refine gf_X12_72 hC rfl hK hP 0 rfl rfl gX12_shelf_6.2.1 ?_
                  refine lv_iload_n hx hb gX12_shelf_6.2.2.1 rfl (lv_at3 hl) ?_
                  refine lv_iload hx hb gX12_shelf_6.2.2.2.1 (lv_at0 hl) ?_
                  refine lv_if_eq (tgt := 125) hx hb gX12_shelf_6.2.2.2.2.1 (by decide) (fun _ => ?_) (fun c9 => absurd (by decide) c9)
                  refine lv_iload_n hx hb gX12_shelf_6.2.2.2.2.2.2.2.1 rfl (lv_at4 hl) ?_
                  refine lv_iconst (v := 1) hx hb gX12_shelf_6.2.2.2.2.2.2.2.2.1 (by decide) ?_
                  refine lv_iadd hx hb gX12_shelf_6.2.2.2.2.2.2.2.2.2 ?_
                  refine eqi (x1 := 4) (by decide) ?_
                  refine astN hC hK hP hD hS 4 (ws' := [(h0, oX12 nw nk mhasKept nt mtaped nr mrowMany mroundOf mroundFrom mouts nm mfromHour mtoHour ns mfrom mto msort misFault mdeep mcoded mlines nl nc nF np ntr nb mbestCost nso nsi nit nsh nsf nss nrc mtraced mdealer mnumber mwhose msize misParted), (nw, iA G 1662 fnw), (nso, iA G 4 fnso), (nsi, iA G 4 fnsi), (nsh, iA G 4 (upd fnsh js 4)), (nsf, iA G 4 fnsf), (nss, iA G 4 fnss)]) rfl (k := js) (by omega) (Nat.le_of_ble_eq_true rfl) (rfl) gX12_shelf_7.1 (fun H locs hP hD hS => ?_)
                  refine lv_aload_n hx hb gX12_shelf_7.2.1 rfl (lv_at2 hl) ?_
                  refine gf_X12_75 hC rfl hK hP 0 rfl rfl gX12_shelf_7.2.2.1 ?_
                  refine lv_iload_n hx hb gX12_shelf_7.2.2.2.1 rfl (lv_at3 hl) ?_
                  refine lv_iload hx hb gX12_shelf_7.2.2.2.2.1 (lv_at0 hl) ?_
                  refine lv_if_eq (tgt := 143) hx hb gX12_shelf_7.2.2.2.2.2.1 (by decide) (fun _ => ?_) (fun c9 => absurd (by decide) c9)
                  refine lv_iload_n hx hb gX12_shelf_7.2.2.2.2.2.2.2.2.1 rfl (lv_at4 hl) ?_
                  refine lv_iconst (v := 3) hx hb gX12_shelf_7.2.2.2.2.2.2.2.2.2 (by decide) ?_
                  refine lv_icmp_ne (tgt := 157) hx hb gX12_shelf_8.1 (by decide) (fun c9 => absurd (by decide) c9) (fun _ => ?_)
                  refine lv_aload_n hx hb gX12_shelf_8.2.1 rfl (lv_at2 hl) ?_
                  refine gf_X12_63 hC rfl hK hP 0 rfl rfl gX12_shelf_8.2.2.1 ?_
                  refine lv_iload_n hx hb gX12_shelf_8.2.2.2.1 rfl (lv_at5 hl) ?_
                  refine aldN hC hK hP 2 rfl (k := jn) (by omega) (Nat.le_of_ble_eq_true rfl) (v := fnso jn) rfl gX12_shelf_8.2.2.2.2.1 ?_
                  refine lv_goto (tgt := 158) hx hb gX12_shelf_8.2.2.2.2.2.1 (by decide) ?_
                  refine astN hC hK hP hD hS 5 (ws' := [(h0, oX12 nw nk mhasKept nt mtaped nr mrowMany mroundOf mroundFrom mouts nm mfromHour mtoHour ns mfrom mto msort misFault mdeep mcoded mlines nl nc nF np ntr nb mbestCost nso nsi nit nsh nsf nss nrc mtraced mdealer mnumber mwhose msize misParted), (nw, iA G 1662 fnw), (nso, iA G 4 fnso), (nsi, iA G 4 fnsi), (nsh, iA G 4 (upd fnsh js 4)), (nsf, iA G 4 (upd fnsf js (fnso jn))), (nss, iA G 4 fnss)]) rfl (k := js) (by omega) (Nat.le_of_ble_eq_true rfl) (rfl) gX12_shelf_8.2.2.2.2.2.2.2.1 (fun H locs hP hD hS => ?_)
                  refine lv_aload_n hx hb gX12_shelf_8.2.2.2.2.2.2.2.2.1 rfl (lv_at2 hl) ?_
                  refine gf_X12_78 hC rfl hK hP 0 rfl rfl gX12_shelf_8.2.2.2.2.2.2.2.2.2 ?_
                  refine lv_iload_n hx hb gX12_shelf_9.1 rfl (lv_at3 hl) ?_
                  refine lv_iload hx hb gX12_shelf_9.2.1 (lv_at0 hl) ?_
                  refine lv_if_ne (tgt := 174) hx hb gX12_shelf_9.2.2.1 (by decide) (fun c9 => absurd (by decide) c9) (fun _ => ?_)
                  refine lv_iload_n hx hb gX12_shelf_9.2.2.2.1 rfl (lv_at4 hl) ?_
                  refine lv_iconst (v := 3) hx hb gX12_shelf_9.2.2.2.2.1 (by decide) ?_
                  refine lv_icmp_ge (tgt := 178) hx hb gX12_shelf_9.2.2.2.2.2.1 (by decide) (fun _ => ?_) (fun c9 => absurd (by decide) c9)
                  refine lv_aload_n hx hb gX12_shelf_9.2.2.2.2.2.2.2.2.1 rfl (lv_at2 hl) ?_
                  refine gf_X12_66 hC rfl hK hP 0 rfl rfl gX12_shelf_9.2.2.2.2.2.2.2.2.2 ?_
                  refine lv_iload_n hx hb gX12_shelf_10.1 rfl (lv_at5 hl) ?_
                  refine aldN hC hK hP 3 rfl (k := jn) (by omega) (Nat.le_of_ble_eq_true rfl) (v := fnsi jn) rfl gX12_shelf_10.2.1 ?_
                  refine astN hC hK hP hD hS 6 (ws' := [(h0, oX12 nw nk mhasKept nt mtaped nr mrowMany mroundOf mroundFrom mouts nm mfromHour mtoHour ns mfrom mto msort misFault mdeep mcoded mlines nl nc nF np ntr nb mbestCost nso nsi nit nsh nsf nss nrc mtraced mdealer mnumber mwhose msize misParted), (nw, iA G 1662 fnw), (nso, iA G 4 fnso), (nsi, iA G 4 fnsi), (nsh, iA G 4 (upd fnsh js 4)), (nsf, iA G 4 (upd fnsf js (fnso jn))), (nss, iA G 4 (upd fnss js (fnsi jn)))]) rfl (k := js) (by omega) (Nat.le_of_ble_eq_true rfl) (rfl) gX12_shelf_10.2.2.1 (fun H locs hP hD hS => ?_)
                  refine lv_iconst (v := 1) hx hb gX12_shelf_10.2.2.2.1 (by decide) ?_
                  refine toQ hQ0 ?_
                  exact RI (v := 1) hC hP hD hS [0, 1, 2, 3, 4, 5, 6] (upd fnsh js 4, upd fnsf js (fnso jn), upd fnss js (fnsi jn)) rfl rfl (by decide) (⟨(by unfold SHX; first | rfl | (simp only [ifc_t ekq, ifc_t ek8, ifc_t ek9, ifc_t hkq, ifc_t hk8, ifc_t hk9, ifc_f c_1_6286, ifc_f c_15_6287, ifc_f c_30_6288, ifc_t a6295, ifc_t a6297, ifc_t a6299, ifc_t c_101_6300, ifc_f (q := (fnso jn) < 0) (Int32.not_lt.mpr c_101_6300), ifc_t trivial, ifc_f (q := False) (fun h9 => h9), ifc_f (q := (3 : Int32) = 0) (by decide), ifc_f (q := (3 : Int32) = 1) (by decide), ifc_f (q := (3 : Int32) = 2) (by decide), ifc_t (q := (3 : Int32) = 3) rfl, ifc_f (q := (3 : Int32) = 4) (by decide)]; done) | (simp only [ifc_t ekq, ifc_t ek8, ifc_t ek9, ifc_t hkq, ifc_t hk8, ifc_t hk9, ifc_f c_1_6286, ifc_f c_15_6287, ifc_f c_30_6288, ifc_t a6295, ifc_t a6297, ifc_t a6299, ifc_t c_101_6300, ifc_f (q := (fnso jn) < 0) (Int32.not_lt.mpr c_101_6300), ifc_t trivial, ifc_f (q := False) (fun h9 => h9), ifc_f (q := (3 : Int32) = 0) (by decide), ifc_f (q := (3 : Int32) = 1) (by decide), ifc_f (q := (3 : Int32) = 2) (by decide), ifc_t (q := (3 : Int32) = 3) rfl, ifc_f (q := (3 : Int32) = 4) (by decide)]; rfl)), ⟨fun _ => ⟨4, (fnso jn), (fnsi jn), (by rw [nI_clamp (n := js) (by omega), nI_clamp (n := jn) (by omega)]; exact ⟨rfl, rfl, rfl, ⟨fun _ => ⟨fun h9 => absurd h9 (Int32.not_lt.mpr c_101_6300), fun _ => ⟨rfl, rfl, rfl⟩⟩, fun h9 => absurd h9 (by decide), fun h9 => absurd h9 (by decide)⟩⟩)⟩, fun h9 => absurd (by unfold SHX; simp only [ifc_t ekq, ifc_t ek8, ifc_t ek9, ifc_t hkq, ifc_t hk8, ifc_t hk9, ifc_f c_1_6286, ifc_f c_15_6287, ifc_f c_30_6288, ifc_t a6295, ifc_t a6297, ifc_t a6299, ifc_t c_101_6300, ifc_f (q := (fnso jn) < 0) (Int32.not_lt.mpr c_101_6300), ifc_t trivial, ifc_f (q := False) (fun h9 => h9), ifc_f (q := (3 : Int32) = 0) (by decide), ifc_f (q := (3 : Int32) = 1) (by decide), ifc_f (q := (3 : Int32) = 2) (by decide), ifc_t (q := (3 : Int32) = 3) rfl, ifc_f (q := (3 : Int32) = 4) (by decide)]) h9⟩⟩) rfl gX12_shelf_10.2.2.2.2
                · refine lv_iconst (v := 1) hx hb gX12_shelf_5.2.2.2.2.2.2.1 (by decide) ?_
                  refine lv_goto (tgt := 109) hx hb gX12_shelf_5.2.2.2.2.2.2.2.1 (by decide) ?_
                  refine lv_istore (lv' := [(5, .int 1), (4, .int 1), (0, .ref h0), (1, .int (nI js)), (2, .int 3), (3, .int (nI jn))]) hx hb gX12_shelf_5.2.2.2.2.2.2.2.2.2 hl (by decide) rfl (fun ls hl => ?_)
                  refine lv_aload_n hx hb gX12_shelf_6.1 rfl (lv_at2 hl) ?_
                  refine gf_X12_72 hC rfl hK hP 0 rfl rfl gX12_shelf_6.2.1 ?_
                  refine lv_iload_n hx hb gX12_shelf_6.2.2.1 rfl (lv_at3 hl) ?_
                  refine lv_iload hx hb gX12_shelf_6.2.2.2.1 (lv_at0 hl) ?_
                  refine lv_if_eq (tgt := 125) hx hb gX12_shelf_6.2.2.2.2.1 (by decide) (fun c9 => absurd c9 (by decide)) (fun _ => ?_)
                  refine lv_iconst (v := 0) hx hb gX12_shelf_6.2.2.2.2.2.1 (by decide) ?_
                  refine lv_goto (tgt := 128) hx hb gX12_shelf_6.2.2.2.2.2.2.1 (by decide) ?_
                  refine astN hC hK hP hD hS 4 (ws' := [(h0, oX12 nw nk mhasKept nt mtaped nr mrowMany mroundOf mroundFrom mouts nm mfromHour mtoHour ns mfrom mto msort misFault mdeep mcoded mlines nl nc nF np ntr nb mbestCost nso nsi nit nsh nsf nss nrc mtraced mdealer mnumber mwhose msize misParted), (nw, iA G 1662 fnw), (nso, iA G 4 fnso), (nsi, iA G 4 fnsi), (nsh, iA G 4 (upd fnsh js 0)), (nsf, iA G 4 fnsf), (nss, iA G 4 fnss)]) rfl (k := js) (by omega) (Nat.le_of_ble_eq_true rfl) (rfl) gX12_shelf_7.1 (fun H locs hP hD hS => ?_)
                  refine lv_aload_n hx hb gX12_shelf_7.2.1 rfl (lv_at2 hl) ?_
                  refine gf_X12_75 hC rfl hK hP 0 rfl rfl gX12_shelf_7.2.2.1 ?_
                  refine lv_iload_n hx hb gX12_shelf_7.2.2.2.1 rfl (lv_at3 hl) ?_
                  refine lv_iload hx hb gX12_shelf_7.2.2.2.2.1 (lv_at0 hl) ?_
                  refine lv_if_eq (tgt := 143) hx hb gX12_shelf_7.2.2.2.2.2.1 (by decide) (fun c9 => absurd c9 (by decide)) (fun _ => ?_)
                  refine lv_iconst (v := 0) hx hb gX12_shelf_7.2.2.2.2.2.2.1 (by decide) ?_
                  refine lv_goto (tgt := 158) hx hb gX12_shelf_7.2.2.2.2.2.2.2.1 (by decide) ?_
                  refine astN hC hK hP hD hS 5 (ws' := [(h0, oX12 nw nk mhasKept nt mtaped nr mrowMany mroundOf mroundFrom mouts nm mfromHour mtoHour ns mfrom mto msort misFault mdeep mcoded mlines nl nc nF np ntr nb mbestCost nso nsi nit nsh nsf nss nrc mtraced mdealer mnumber mwhose msize misParted), (nw, iA G 1662 fnw), (nso, iA G 4 fnso), (nsi, iA G 4 fnsi), (nsh, iA G 4 (upd fnsh js 0)), (nsf, iA G 4 (upd fnsf js 0)), (nss, iA G 4 fnss)]) rfl (k := js) (by omega) (Nat.le_of_ble_eq_true rfl) (rfl) gX12_shelf_8.2.2.2.2.2.2.2.1 (fun H locs hP hD hS => ?_)
                  refine lv_aload_n hx hb gX12_shelf_8.2.2.2.2.2.2.2.2.1 rfl (lv_at2 hl) ?_
                  refine gf_X12_78 hC rfl hK hP 0 rfl rfl gX12_shelf_8.2.2.2.2.2.2.2.2.2 ?_
                  refine lv_iload_n hx hb gX12_shelf_9.1 rfl (lv_at3 hl) ?_
                  refine lv_iload hx hb gX12_shelf_9.2.1 (lv_at0 hl) ?_
                  refine lv_if_ne (tgt := 174) hx hb gX12_shelf_9.2.2.1 (by decide) (fun _ => ?_) (fun c9 => absurd c9 (by decide))
                  refine lv_iconst (v := 0) hx hb gX12_shelf_9.2.2.2.2.2.2.1 (by decide) ?_
                  refine lv_goto (tgt := 184) hx hb gX12_shelf_9.2.2.2.2.2.2.2.1 (by decide) ?_
                  refine astN hC hK hP hD hS 6 (ws' := [(h0, oX12 nw nk mhasKept nt mtaped nr mrowMany mroundOf mroundFrom mouts nm mfromHour mtoHour ns mfrom mto msort misFault mdeep mcoded mlines nl nc nF np ntr nb mbestCost nso nsi nit nsh nsf nss nrc mtraced mdealer mnumber mwhose msize misParted), (nw, iA G 1662 fnw), (nso, iA G 4 fnso), (nsi, iA G 4 fnsi), (nsh, iA G 4 (upd fnsh js 0)), (nsf, iA G 4 (upd fnsf js 0)), (nss, iA G 4 (upd fnss js 0))]) rfl (k := js) (by omega) (Nat.le_of_ble_eq_true rfl) (rfl) gX12_shelf_10.2.2.1 (fun H locs hP hD hS => ?_)
                  refine lv_iconst (v := 1) hx hb gX12_shelf_10.2.2.2.1 (by decide) ?_
                  refine toQ hQ0 ?_
                  exact RI (v := 1) hC hP hD hS [0, 1, 2, 3, 4, 5, 6] (upd fnsh js 0, upd fnsf js 0, upd fnss js 0) rfl rfl (by decide) (⟨(by unfold SHX; first | rfl | (simp only [ifc_t ekq, ifc_t ek8, ifc_t ek9, ifc_t hkq, ifc_t hk8, ifc_t hk9, ifc_f c_1_6286, ifc_f c_15_6287, ifc_f c_30_6288, ifc_t a6295, ifc_t a6297, ifc_t a6299, ifc_f c_101_6300, ifc_t (q := (fnso jn) < 0) (Int32.not_le.mp c_101_6300), ifc_t trivial, ifc_f (q := False) (fun h9 => h9), ifc_f (q := (3 : Int32) = 0) (by decide), ifc_f (q := (3 : Int32) = 1) (by decide), ifc_f (q := (3 : Int32) = 2) (by decide), ifc_t (q := (3 : Int32) = 3) rfl, ifc_f (q := (3 : Int32) = 4) (by decide)]; done) | (simp only [ifc_t ekq, ifc_t ek8, ifc_t ek9, ifc_t hkq, ifc_t hk8, ifc_t hk9, ifc_f c_1_6286, ifc_f c_15_6287, ifc_f c_30_6288, ifc_t a6295, ifc_t a6297, ifc_t a6299, ifc_f c_101_6300, ifc_t (q := (fnso jn) < 0) (Int32.not_le.mp c_101_6300), ifc_t trivial, ifc_f (q := False) (fun h9 => h9), ifc_f (q := (3 : Int32) = 0) (by decide), ifc_f (q := (3 : Int32) = 1) (by decide), ifc_f (q := (3 : Int32) = 2) (by decide), ifc_t (q := (3 : Int32) = 3) rfl, ifc_f (q := (3 : Int32) = 4) (by decide)]; rfl)), ⟨fun _ => ⟨0, 0, 0, (by rw [nI_clamp (n := js) (by omega), nI_clamp (n := jn) (by omega)]; exact ⟨rfl, rfl, rfl, ⟨fun _ => ⟨fun _ => rfl, fun h9 => absurd (Int32.not_le.mp c_101_6300) h9⟩, fun h9 => absurd h9 (by decide), fun h9 => absurd h9 (by decide)⟩⟩)⟩, fun h9 => absurd (by unfold SHX; simp only [ifc_t ekq, ifc_t ek8, ifc_t ek9, ifc_t hkq, ifc_t hk8, ifc_t hk9, ifc_f c_1_6286, ifc_f c_15_6287, ifc_f c_30_6288, ifc_t a6295, ifc_t a6297, ifc_t a6299, ifc_f c_101_6300, ifc_t (q := (fnso jn) < 0) (Int32.not_le.mp c_101_6300), ifc_t trivial, ifc_f (q := False) (fun h9 => h9), ifc_f (q := (3 : Int32) = 0) (by decide), ifc_f (q := (3 : Int32) = 1) (by decide), ifc_f (q := (3 : Int32) = 2) (by decide), ifc_t (q := (3 : Int32) = 3) rfl, ifc_f (q := (3 : Int32) = 4) (by decide)]) h9⟩⟩) rfl gX12_shelf_10.2.2.2.2
              · exact absurd (by unfold Wi; decide) a6299
            · refine lv_if_eq (tgt := 83) hx hb gX12_shelf_3.2.2.2.2.2.1 (by decide) (fun _ => ?_) (fun c9 => absurd (by decide) c9)
              refine lv_iconst (v := (-1)) hx hb gX12_shelf_4.2.2.2.1 (by decide) ?_
              refine toQ hQ0 ?_
              exact RI (v := (-1)) hC hP hD hS [0, 1, 2, 3, 4, 5, 6] (fnsh, fnsf, fnss) rfl rfl (by decide) (⟨(by unfold SHX; first | rfl | (simp only [ifc_t ekq, ifc_t ek8, ifc_t ek9, ifc_t hkq, ifc_t hk8, ifc_t hk9, ifc_f c_1_6286, ifc_f c_15_6287, ifc_f c_30_6288, ifc_t a6295, ifc_f a6297, ifc_t trivial, ifc_f (q := False) (fun h9 => h9), ifc_f (q := (3 : Int32) = 0) (by decide), ifc_f (q := (3 : Int32) = 1) (by decide), ifc_f (q := (3 : Int32) = 2) (by decide), ifc_t (q := (3 : Int32) = 3) rfl, ifc_f (q := (3 : Int32) = 4) (by decide)]; done) | (simp only [ifc_t ekq, ifc_t ek8, ifc_t ek9, ifc_t hkq, ifc_t hk8, ifc_t hk9, ifc_f c_1_6286, ifc_f c_15_6287, ifc_f c_30_6288, ifc_t a6295, ifc_f a6297, ifc_t trivial, ifc_f (q := False) (fun h9 => h9), ifc_f (q := (3 : Int32) = 0) (by decide), ifc_f (q := (3 : Int32) = 1) (by decide), ifc_f (q := (3 : Int32) = 2) (by decide), ifc_t (q := (3 : Int32) = 3) rfl, ifc_f (q := (3 : Int32) = 4) (by decide)]; rfl)), ⟨fun h9 => absurd ((show SHX x1 3 x3 kq k8 k9 = (-1) from by unfold SHX; simp only [ifc_t ekq, ifc_t ek8, ifc_t ek9, ifc_t hkq, ifc_t hk8, ifc_t hk9, ifc_f c_1_6286, ifc_f c_15_6287, ifc_f c_30_6288, ifc_t a6295, ifc_f a6297, ifc_t trivial, ifc_f (q := False) (fun h9 => h9), ifc_f (q := (3 : Int32) = 0) (by decide), ifc_f (q := (3 : Int32) = 1) (by decide), ifc_f (q := (3 : Int32) = 2) (by decide), ifc_t (q := (3 : Int32) = 3) rfl, ifc_f (q := (3 : Int32) = 4) (by decide)]).symm.trans h9) (by decide), fun _ => ⟨rfl, rfl, rfl⟩⟩⟩) rfl gX12_shelf_4.2.2.2.2.1
          · refine lv_if_eq (tgt := 59) hx hb gX12_shelf_2.2.2.2.2.2.2.2.2.1 (by decide) (fun _ => ?_) (fun c9 => absurd (by decide) c9)
            refine lv_iconst (v := 0) hx hb gX12_shelf_3.2.1 (by decide) ?_
            refine lv_istore (lv' := [(4, .int 0), (0, .ref h0), (1, .int x1), (2, .int 3), (3, .int x3)]) hx hb gX12_shelf_3.2.2.1 hl (by decide) rfl (fun ls hl => ?_)
            refine lv_iload_n hx hb gX12_shelf_3.2.2.2.1 rfl (lv_at2 hl) ?_
            refine pS hC hK hl (m_isFour l G x1) si_X12_336 rfl rfl (Nat.le_of_ble_eq_true rfl) rm_3_2_1 ⟨by first | exact Nat.le_of_ble_eq_true rfl | exact Nat.zero_le _, by first | exact Nat.le_of_ble_eq_true rfl | exact Nat.zero_le _⟩ gX12_shelf_3.2.2.2.2.1 (Kors (Keqa fun a6302 => ?_) (Keqa fun a6302 => ?_))
            · refine lv_if_eq (tgt := 83) hx hb gX12_shelf_3.2.2.2.2.2.1 (by decide) (fun c9 => absurd c9 (by decide)) (fun _ => ?_)
              refine lv_iload_n hx hb gX12_shelf_3.2.2.2.2.2.2.1 rfl (lv_at3 hl) ?_
              refine lv_iconst (v := 0) hx hb gX12_shelf_3.2.2.2.2.2.2.2.1 (by decide) ?_
              refine lv_iconst (v := 4) hx hb gX12_shelf_3.2.2.2.2.2.2.2.2.1 (by decide) ?_
              refine pS hC hK hl (m_within l G 3 0 4) si_X12_84 rfl rfl (Nat.le_of_ble_eq_true rfl) rm_3_1_3 ⟨by first | exact Nat.le_of_ble_eq_true rfl | exact Nat.zero_le _, by first | exact Nat.le_of_ble_eq_true rfl | exact Nat.zero_le _⟩ gX12_shelf_3.2.2.2.2.2.2.2.2.2 (Kors (Keqa fun a6304 => ?_) (Keqa fun a6304 => ?_))
              · refine lv_if_eq (tgt := 83) hx hb gX12_shelf_4.1 (by decide) (fun c9 => absurd c9 (by decide)) (fun _ => ?_)
                refine lv_iload hx hb gX12_shelf_4.2.1 (lv_at0 hl) ?_
                refine lv_if_ne (tgt := 85) hx hb gX12_shelf_4.2.2.1 (by decide) (fun c9 => absurd (by decide) c9) (fun _ => ?_)
                refine lv_iconst (v := (-1)) hx hb gX12_shelf_4.2.2.2.1 (by decide) ?_
                refine toQ hQ0 ?_
                exact RI (v := (-1)) hC hP hD hS [0, 1, 2, 3, 4, 5, 6] (fnsh, fnsf, fnss) rfl rfl (by decide) (⟨(by unfold SHX; first | rfl | (simp only [ifc_t ekq, ifc_t ek8, ifc_t ek9, ifc_t hkq, ifc_t hk8, ifc_t hk9, ifc_f c_1_6286, ifc_f c_15_6287, ifc_f c_30_6288, ifc_f a6295, ifc_t a6302, ifc_t a6304, ifc_t trivial, ifc_f (q := False) (fun h9 => h9), ifc_f (q := (3 : Int32) = 0) (by decide), ifc_f (q := (3 : Int32) = 1) (by decide), ifc_f (q := (3 : Int32) = 2) (by decide), ifc_t (q := (3 : Int32) = 3) rfl, ifc_f (q := (3 : Int32) = 4) (by decide)]; done) | (simp only [ifc_t ekq, ifc_t ek8, ifc_t ek9, ifc_t hkq, ifc_t hk8, ifc_t hk9, ifc_f c_1_6286, ifc_f c_15_6287, ifc_f c_30_6288, ifc_f a6295, ifc_t a6302, ifc_t a6304, ifc_t trivial, ifc_f (q := False) (fun h9 => h9), ifc_f (q := (3 : Int32) = 0) (by decide), ifc_f (q := (3 : Int32) = 1) (by decide), ifc_f (q := (3 : Int32) = 2) (by decide), ifc_t (q := (3 : Int32) = 3) rfl, ifc_f (q := (3 : Int32) = 4) (by decide)]; rfl)), ⟨fun h9 => absurd ((show SHX x1 3 x3 kq k8 k9 = (-1) from by unfold SHX; simp only [ifc_t ekq, ifc_t ek8, ifc_t ek9, ifc_t hkq, ifc_t hk8, ifc_t hk9, ifc_f c_1_6286, ifc_f c_15_6287, ifc_f c_30_6288, ifc_f a6295, ifc_t a6302, ifc_t a6304, ifc_t trivial, ifc_f (q := False) (fun h9 => h9), ifc_f (q := (3 : Int32) = 0) (by decide), ifc_f (q := (3 : Int32) = 1) (by decide), ifc_f (q := (3 : Int32) = 2) (by decide), ifc_t (q := (3 : Int32) = 3) rfl, ifc_f (q := (3 : Int32) = 4) (by decide)]).symm.trans h9) (by decide), fun _ => ⟨rfl, rfl, rfl⟩⟩⟩) rfl gX12_shelf_4.2.2.2.2.1
              · exact absurd (by unfold Wi; decide) a6304
            · refine lv_if_eq (tgt := 83) hx hb gX12_shelf_3.2.2.2.2.2.1 (by decide) (fun _ => ?_) (fun c9 => absurd (by decide) c9)
              refine lv_iconst (v := (-1)) hx hb gX12_shelf_4.2.2.2.1 (by decide) ?_
              refine toQ hQ0 ?_
              exact RI (v := (-1)) hC hP hD hS [0, 1, 2, 3, 4, 5, 6] (fnsh, fnsf, fnss) rfl rfl (by decide) (⟨(by unfold SHX; first | rfl | (simp only [ifc_t ekq, ifc_t ek8, ifc_t ek9, ifc_t hkq, ifc_t hk8, ifc_t hk9, ifc_f c_1_6286, ifc_f c_15_6287, ifc_f c_30_6288, ifc_f a6295, ifc_f a6302, ifc_t trivial, ifc_f (q := False) (fun h9 => h9), ifc_f (q := (3 : Int32) = 0) (by decide), ifc_f (q := (3 : Int32) = 1) (by decide), ifc_f (q := (3 : Int32) = 2) (by decide), ifc_t (q := (3 : Int32) = 3) rfl, ifc_f (q := (3 : Int32) = 4) (by decide)]; done) | (simp only [ifc_t ekq, ifc_t ek8, ifc_t ek9, ifc_t hkq, ifc_t hk8, ifc_t hk9, ifc_f c_1_6286, ifc_f c_15_6287, ifc_f c_30_6288, ifc_f a6295, ifc_f a6302, ifc_t trivial, ifc_f (q := False) (fun h9 => h9), ifc_f (q := (3 : Int32) = 0) (by decide), ifc_f (q := (3 : Int32) = 1) (by decide), ifc_f (q := (3 : Int32) = 2) (by decide), ifc_t (q := (3 : Int32) = 3) rfl, ifc_f (q := (3 : Int32) = 4) (by decide)]; rfl)), ⟨fun h9 => absurd ((show SHX x1 3 x3 kq k8 k9 = (-1) from by unfold SHX; simp only [ifc_t ekq, ifc_t ek8, ifc_t ek9, ifc_t hkq, ifc_t hk8, ifc_t hk9, ifc_f c_1_6286, ifc_f c_15_6287, ifc_f c_30_6288, ifc_f a6295, ifc_f a6302, ifc_t trivial, ifc_f (q := False) (fun h9 => h9), ifc_f (q := (3 : Int32) = 0) (by decide), ifc_f (q := (3 : Int32) = 1) (by decide), ifc_f (q := (3 : Int32) = 2) (by decide), ifc_t (q := (3 : Int32) = 3) rfl, ifc_f (q := (3 : Int32) = 4) (by decide)]).symm.trans h9) (by decide), fun _ => ⟨rfl, rfl, rfl⟩⟩⟩) rfl gX12_shelf_4.2.2.2.2.1
      · obtain rfl : x2 = 2 := c_30_6288
        refine lv_aload_n hx hb gX12_shelf_1.2.2.2.2.2.2.2.2.1 rfl (lv_at0 hl) ?_
        refine lv_iload_n hx hb gX12_shelf_1.2.2.2.2.2.2.2.2.2 rfl (lv_at3 hl) ?_
        refine lv_bipush (v := 9) hx hb gX12_shelf_2.1 (by decide) ?_
        refine pV hC hK hl hP hD (m_is l G k9 h0 x3 9 nw nk mhasKept nt mtaped nr mrowMany mroundOf mroundFrom mouts nm mfromHour mtoHour ns mfrom mto msort misFault mdeep mcoded mlines nl nc nF np ntr nb mbestCost nso nsi nit nsh nsf nss nrc mtraced mdealer mnumber mwhose msize misParted fnw (by omega) (ek9) (by omega)) si_X12_120 [0, 1] sm_0_1 fm_0_1 nd_0_1 rfl rfl rfl rfl rfl (Nat.le_of_ble_eq_true rfl) rm_3_2_3 ⟨by first | exact Nat.le_of_ble_eq_true rfl | exact Nat.zero_le _, by first | exact Nat.le_of_ble_eq_true rfl | exact Nat.zero_le _⟩ gX12_shelf_2.2.1 (Kors (Keqa fun a6306 => ?_) (Keqa fun a6306 => ?_))
        · refine lv_goto (tgt := 60) hx hb gX12_shelf_2.2.2.1 (by decide) ?_
          refine lv_istore (lv' := [(4, .int 1), (0, .ref h0), (1, .int x1), (2, .int 2), (3, .int x3)]) hx hb gX12_shelf_3.2.2.1 hl (by decide) rfl (fun ls hl => ?_)
          refine lv_iload_n hx hb gX12_shelf_3.2.2.2.1 rfl (lv_at2 hl) ?_
          refine pS hC hK hl (m_isFour l G x1) si_X12_336 rfl rfl (Nat.le_of_ble_eq_true rfl) rm_3_2_1 ⟨by first | exact Nat.le_of_ble_eq_true rfl | exact Nat.zero_le _, by first | exact Nat.le_of_ble_eq_true rfl | exact Nat.zero_le _⟩ gX12_shelf_3.2.2.2.2.1 (Kors (Keqa fun a6308 => ?_) (Keqa fun a6308 => ?_))
          · refine lv_if_eq (tgt := 83) hx hb gX12_shelf_3.2.2.2.2.2.1 (by decide) (fun c9 => absurd c9 (by decide)) (fun _ => ?_)
            refine lv_iload_n hx hb gX12_shelf_3.2.2.2.2.2.2.1 rfl (lv_at3 hl) ?_
            refine lv_iconst (v := 0) hx hb gX12_shelf_3.2.2.2.2.2.2.2.1 (by decide) ?_
            refine lv_iconst (v := 4) hx hb gX12_shelf_3.2.2.2.2.2.2.2.2.1 (by decide) ?_
            refine pS hC hK hl (m_within l G 2 0 4) si_X12_84 rfl rfl (Nat.le_of_ble_eq_true rfl) rm_3_1_3 ⟨by first | exact Nat.le_of_ble_eq_true rfl | exact Nat.zero_le _, by first | exact Nat.le_of_ble_eq_true rfl | exact Nat.zero_le _⟩ gX12_shelf_3.2.2.2.2.2.2.2.2.2 (Kors (Keqa fun a6310 => ?_) (Keqa fun a6310 => ?_))
            · refine lv_if_eq (tgt := 83) hx hb gX12_shelf_4.1 (by decide) (fun c9 => absurd c9 (by decide)) (fun _ => ?_)
              refine lv_iload hx hb gX12_shelf_4.2.1 (lv_at0 hl) ?_
              refine lv_if_ne (tgt := 85) hx hb gX12_shelf_4.2.2.1 (by decide) (fun _ => ?_) (fun c9 => absurd c9 (by decide))
              obtain ⟨js, hjs, rfl⟩ := Wi_nat (N := 3) (by decide) a6308
              refine lv_iload_n hx hb gX12_shelf_4.2.2.2.2.2.1 rfl (lv_at3 hl) ?_
              refine lv_iconst (v := 4) hx hb gX12_shelf_4.2.2.2.2.2.2.1 (by decide) ?_
              refine lv_icmp_eq (tgt := 104) hx hb gX12_shelf_4.2.2.2.2.2.2.2.1 (by decide) (fun c9 => absurd c9 (by decide)) (fun _ => ?_)
              refine lv_iload_n hx hb gX12_shelf_4.2.2.2.2.2.2.2.2.1 rfl (lv_at3 hl) ?_
              refine lv_iconst (v := 3) hx hb gX12_shelf_4.2.2.2.2.2.2.2.2.2 (by decide) ?_
              refine lv_icmp_ne (tgt := 108) hx hb gX12_shelf_5.1 (by decide) (fun _ => ?_) (fun c9 => absurd c9 (by decide))
              refine lv_iconst (v := 0) hx hb gX12_shelf_5.2.2.2.2.2.2.2.2.1 (by decide) ?_
              refine lv_istore (lv' := [(5, .int 0), (4, .int 1), (0, .ref h0), (1, .int (nI js)), (2, .int 2), (3, .int x3)]) hx hb gX12_shelf_5.2.2.2.2.2.2.2.2.2 hl (by decide) rfl (fun ls hl => ?_)
              refine lv_aload_n hx hb gX12_shelf_6.1 rfl (lv_at2 hl) ?_
              refine gf_X12_72 hC rfl hK hP 0 rfl rfl gX12_shelf_6.2.1 ?_
              refine lv_iload_n hx hb gX12_shelf_6.2.2.1 rfl (lv_at3 hl) ?_
              refine lv_iload hx hb gX12_shelf_6.2.2.2.1 (lv_at0 hl) ?_
              refine lv_if_eq (tgt := 125) hx hb gX12_shelf_6.2.2.2.2.1 (by decide) (fun _ => ?_) (fun c9 => absurd (by decide) c9)
              refine lv_iload_n hx hb gX12_shelf_6.2.2.2.2.2.2.2.1 rfl (lv_at4 hl) ?_
              refine lv_iconst (v := 1) hx hb gX12_shelf_6.2.2.2.2.2.2.2.2.1 (by decide) ?_
              refine lv_iadd hx hb gX12_shelf_6.2.2.2.2.2.2.2.2.2 ?_
              refine eqi (x1 := 3) (by decide) ?_
              refine astN hC hK hP hD hS 4 (ws' := [(h0, oX12 nw nk mhasKept nt mtaped nr mrowMany mroundOf mroundFrom mouts nm mfromHour mtoHour ns mfrom mto msort misFault mdeep mcoded mlines nl nc nF np ntr nb mbestCost nso nsi nit nsh nsf nss nrc mtraced mdealer mnumber mwhose msize misParted), (nw, iA G 1662 fnw), (nso, iA G 4 fnso), (nsi, iA G 4 fnsi), (nsh, iA G 4 (upd fnsh js 3)), (nsf, iA G 4 fnsf), (nss, iA G 4 fnss)]) rfl (k := js) (by omega) (Nat.le_of_ble_eq_true rfl) (rfl) gX12_shelf_7.1 (fun H locs hP hD hS => ?_)
              refine lv_aload_n hx hb gX12_shelf_7.2.1 rfl (lv_at2 hl) ?_
              refine gf_X12_75 hC rfl hK hP 0 rfl rfl gX12_shelf_7.2.2.1 ?_
              refine lv_iload_n hx hb gX12_shelf_7.2.2.2.1 rfl (lv_at3 hl) ?_
              refine lv_iload hx hb gX12_shelf_7.2.2.2.2.1 (lv_at0 hl) ?_
              refine lv_if_eq (tgt := 143) hx hb gX12_shelf_7.2.2.2.2.2.1 (by decide) (fun _ => ?_) (fun c9 => absurd (by decide) c9)
              refine lv_iload_n hx hb gX12_shelf_7.2.2.2.2.2.2.2.2.1 rfl (lv_at4 hl) ?_
              refine lv_iconst (v := 3) hx hb gX12_shelf_7.2.2.2.2.2.2.2.2.2 (by decide) ?_
              refine lv_icmp_ne (tgt := 157) hx hb gX12_shelf_8.1 (by decide) (fun _ => ?_) (fun c9 => absurd c9 (by decide))
              refine lv_iload_n hx hb gX12_shelf_8.2.2.2.2.2.2.1 rfl (lv_at5 hl) ?_
              refine astN hC hK hP hD hS 5 (ws' := [(h0, oX12 nw nk mhasKept nt mtaped nr mrowMany mroundOf mroundFrom mouts nm mfromHour mtoHour ns mfrom mto msort misFault mdeep mcoded mlines nl nc nF np ntr nb mbestCost nso nsi nit nsh nsf nss nrc mtraced mdealer mnumber mwhose msize misParted), (nw, iA G 1662 fnw), (nso, iA G 4 fnso), (nsi, iA G 4 fnsi), (nsh, iA G 4 (upd fnsh js 3)), (nsf, iA G 4 (upd fnsf js x3)), (nss, iA G 4 fnss)]) rfl (k := js) (by omega) (Nat.le_of_ble_eq_true rfl) (rfl) gX12_shelf_8.2.2.2.2.2.2.2.1 (fun H locs hP hD hS => ?_)
              refine lv_aload_n hx hb gX12_shelf_8.2.2.2.2.2.2.2.2.1 rfl (lv_at2 hl) ?_
              refine gf_X12_78 hC rfl hK hP 0 rfl rfl gX12_shelf_8.2.2.2.2.2.2.2.2.2 ?_
              refine lv_iload_n hx hb gX12_shelf_9.1 rfl (lv_at3 hl) ?_
              refine lv_iload hx hb gX12_shelf_9.2.1 (lv_at0 hl) ?_
              refine lv_if_ne (tgt := 174) hx hb gX12_shelf_9.2.2.1 (by decide) (fun c9 => absurd (by decide) c9) (fun _ => ?_)
              refine lv_iload_n hx hb gX12_shelf_9.2.2.2.1 rfl (lv_at4 hl) ?_
              refine lv_iconst (v := 3) hx hb gX12_shelf_9.2.2.2.2.1 (by decide) ?_
              refine lv_icmp_ge (tgt := 178) hx hb gX12_shelf_9.2.2.2.2.2.1 (by decide) (fun c9 => absurd c9 (by decide)) (fun _ => ?_)
              refine lv_iconst (v := 0) hx hb gX12_shelf_9.2.2.2.2.2.2.1 (by decide) ?_
              refine lv_goto (tgt := 184) hx hb gX12_shelf_9.2.2.2.2.2.2.2.1 (by decide) ?_
              refine astN hC hK hP hD hS 6 (ws' := [(h0, oX12 nw nk mhasKept nt mtaped nr mrowMany mroundOf mroundFrom mouts nm mfromHour mtoHour ns mfrom mto msort misFault mdeep mcoded mlines nl nc nF np ntr nb mbestCost nso nsi nit nsh nsf nss nrc mtraced mdealer mnumber mwhose msize misParted), (nw, iA G 1662 fnw), (nso, iA G 4 fnso), (nsi, iA G 4 fnsi), (nsh, iA G 4 (upd fnsh js 3)), (nsf, iA G 4 (upd fnsf js x3)), (nss, iA G 4 (upd fnss js 0))]) rfl (k := js) (by omega) (Nat.le_of_ble_eq_true rfl) (rfl) gX12_shelf_10.2.2.1 (fun H locs hP hD hS => ?_)
              refine lv_iconst (v := 1) hx hb gX12_shelf_10.2.2.2.1 (by decide) ?_
              refine toQ hQ0 ?_
              exact RI (v := 1) hC hP hD hS [0, 1, 2, 3, 4, 5, 6] (upd fnsh js 3, upd fnsf js x3, upd fnss js 0) rfl rfl (by decide) (⟨(by unfold SHX; first | rfl | (simp only [ifc_t ekq, ifc_t ek8, ifc_t ek9, ifc_t hkq, ifc_t hk8, ifc_t hk9, ifc_f c_1_6286, ifc_f c_15_6287, ifc_t a6306, ifc_t a6308, ifc_t a6310, ifc_t trivial, ifc_f (q := False) (fun h9 => h9), ifc_f (q := (2 : Int32) = 0) (by decide), ifc_f (q := (2 : Int32) = 1) (by decide), ifc_t (q := (2 : Int32) = 2) rfl, ifc_f (q := (2 : Int32) = 3) (by decide), ifc_f (q := (2 : Int32) = 4) (by decide)]; done) | (simp only [ifc_t ekq, ifc_t ek8, ifc_t ek9, ifc_t hkq, ifc_t hk8, ifc_t hk9, ifc_f c_1_6286, ifc_f c_15_6287, ifc_t a6306, ifc_t a6308, ifc_t a6310, ifc_t trivial, ifc_f (q := False) (fun h9 => h9), ifc_f (q := (2 : Int32) = 0) (by decide), ifc_f (q := (2 : Int32) = 1) (by decide), ifc_t (q := (2 : Int32) = 2) rfl, ifc_f (q := (2 : Int32) = 3) (by decide), ifc_f (q := (2 : Int32) = 4) (by decide)]; rfl)), ⟨fun _ => ⟨3, x3, 0, (by rw [nI_clamp (n := js) (by omega)]; exact ⟨rfl, rfl, rfl, ⟨fun h9 => absurd h9 (by decide), fun h9 => absurd h9 (by decide), fun _ => ⟨by decide, rfl⟩⟩⟩)⟩, fun h9 => absurd (by unfold SHX; simp only [ifc_t ekq, ifc_t ek8, ifc_t ek9, ifc_t hkq, ifc_t hk8, ifc_t hk9, ifc_f c_1_6286, ifc_f c_15_6287, ifc_t a6306, ifc_t a6308, ifc_t a6310, ifc_t trivial, ifc_f (q := False) (fun h9 => h9), ifc_f (q := (2 : Int32) = 0) (by decide), ifc_f (q := (2 : Int32) = 1) (by decide), ifc_t (q := (2 : Int32) = 2) rfl, ifc_f (q := (2 : Int32) = 3) (by decide), ifc_f (q := (2 : Int32) = 4) (by decide)]) h9⟩⟩) rfl gX12_shelf_10.2.2.2.2
            · exact absurd (by unfold Wi; decide) a6310
          · refine lv_if_eq (tgt := 83) hx hb gX12_shelf_3.2.2.2.2.2.1 (by decide) (fun _ => ?_) (fun c9 => absurd (by decide) c9)
            refine lv_iconst (v := (-1)) hx hb gX12_shelf_4.2.2.2.1 (by decide) ?_
            refine toQ hQ0 ?_
            exact RI (v := (-1)) hC hP hD hS [0, 1, 2, 3, 4, 5, 6] (fnsh, fnsf, fnss) rfl rfl (by decide) (⟨(by unfold SHX; first | rfl | (simp only [ifc_t ekq, ifc_t ek8, ifc_t ek9, ifc_t hkq, ifc_t hk8, ifc_t hk9, ifc_f c_1_6286, ifc_f c_15_6287, ifc_t a6306, ifc_f a6308, ifc_t trivial, ifc_f (q := False) (fun h9 => h9), ifc_f (q := (2 : Int32) = 0) (by decide), ifc_f (q := (2 : Int32) = 1) (by decide), ifc_t (q := (2 : Int32) = 2) rfl, ifc_f (q := (2 : Int32) = 3) (by decide), ifc_f (q := (2 : Int32) = 4) (by decide)]; done) | (simp only [ifc_t ekq, ifc_t ek8, ifc_t ek9, ifc_t hkq, ifc_t hk8, ifc_t hk9, ifc_f c_1_6286, ifc_f c_15_6287, ifc_t a6306, ifc_f a6308, ifc_t trivial, ifc_f (q := False) (fun h9 => h9), ifc_f (q := (2 : Int32) = 0) (by decide), ifc_f (q := (2 : Int32) = 1) (by decide), ifc_t (q := (2 : Int32) = 2) rfl, ifc_f (q := (2 : Int32) = 3) (by decide), ifc_f (q := (2 : Int32) = 4) (by decide)]; rfl)), ⟨fun h9 => absurd ((show SHX x1 2 x3 kq k8 k9 = (-1) from by unfold SHX; simp only [ifc_t ekq, ifc_t ek8, ifc_t ek9, ifc_t hkq, ifc_t hk8, ifc_t hk9, ifc_f c_1_6286, ifc_f c_15_6287, ifc_t a6306, ifc_f a6308, ifc_t trivial, ifc_f (q := False) (fun h9 => h9), ifc_f (q := (2 : Int32) = 0) (by decide), ifc_f (q := (2 : Int32) = 1) (by decide), ifc_t (q := (2 : Int32) = 2) rfl, ifc_f (q := (2 : Int32) = 3) (by decide), ifc_f (q := (2 : Int32) = 4) (by decide)]).symm.trans h9) (by decide), fun _ => ⟨rfl, rfl, rfl⟩⟩⟩) rfl gX12_shelf_4.2.2.2.2.1
        · refine lv_goto (tgt := 60) hx hb gX12_shelf_2.2.2.1 (by decide) ?_
          refine lv_istore (lv' := [(4, .int 0), (0, .ref h0), (1, .int x1), (2, .int 2), (3, .int x3)]) hx hb gX12_shelf_3.2.2.1 hl (by decide) rfl (fun ls hl => ?_)
          refine lv_iload_n hx hb gX12_shelf_3.2.2.2.1 rfl (lv_at2 hl) ?_
          refine pS hC hK hl (m_isFour l G x1) si_X12_336 rfl rfl (Nat.le_of_ble_eq_true rfl) rm_3_2_1 ⟨by first | exact Nat.le_of_ble_eq_true rfl | exact Nat.zero_le _, by first | exact Nat.le_of_ble_eq_true rfl | exact Nat.zero_le _⟩ gX12_shelf_3.2.2.2.2.1 (Kors (Keqa fun a6312 => ?_) (Keqa fun a6312 => ?_))
          · refine lv_if_eq (tgt := 83) hx hb gX12_shelf_3.2.2.2.2.2.1 (by decide) (fun c9 => absurd c9 (by decide)) (fun _ => ?_)
            refine lv_iload_n hx hb gX12_shelf_3.2.2.2.2.2.2.1 rfl (lv_at3 hl) ?_
            refine lv_iconst (v := 0) hx hb gX12_shelf_3.2.2.2.2.2.2.2.1 (by decide) ?_
            refine lv_iconst (v := 4) hx hb gX12_shelf_3.2.2.2.2.2.2.2.2.1 (by decide) ?_
            refine pS hC hK hl (m_within l G 2 0 4) si_X12_84 rfl rfl (Nat.le_of_ble_eq_true rfl) rm_3_1_3 ⟨by first | exact Nat.le_of_ble_eq_true rfl | exact Nat.zero_le _, by first | exact Nat.le_of_ble_eq_true rfl | exact Nat.zero_le _⟩ gX12_shelf_3.2.2.2.2.2.2.2.2.2 (Kors (Keqa fun a6314 => ?_) (Keqa fun a6314 => ?_))
            · refine lv_if_eq (tgt := 83) hx hb gX12_shelf_4.1 (by decide) (fun c9 => absurd c9 (by decide)) (fun _ => ?_)
              refine lv_iload hx hb gX12_shelf_4.2.1 (lv_at0 hl) ?_
              refine lv_if_ne (tgt := 85) hx hb gX12_shelf_4.2.2.1 (by decide) (fun c9 => absurd (by decide) c9) (fun _ => ?_)
              refine lv_iconst (v := (-1)) hx hb gX12_shelf_4.2.2.2.1 (by decide) ?_
              refine toQ hQ0 ?_
              exact RI (v := (-1)) hC hP hD hS [0, 1, 2, 3, 4, 5, 6] (fnsh, fnsf, fnss) rfl rfl (by decide) (⟨(by unfold SHX; first | rfl | (simp only [ifc_t ekq, ifc_t ek8, ifc_t ek9, ifc_t hkq, ifc_t hk8, ifc_t hk9, ifc_f c_1_6286, ifc_f c_15_6287, ifc_f a6306, ifc_t a6312, ifc_t a6314, ifc_t trivial, ifc_f (q := False) (fun h9 => h9), ifc_f (q := (2 : Int32) = 0) (by decide), ifc_f (q := (2 : Int32) = 1) (by decide), ifc_t (q := (2 : Int32) = 2) rfl, ifc_f (q := (2 : Int32) = 3) (by decide), ifc_f (q := (2 : Int32) = 4) (by decide)]; done) | (simp only [ifc_t ekq, ifc_t ek8, ifc_t ek9, ifc_t hkq, ifc_t hk8, ifc_t hk9, ifc_f c_1_6286, ifc_f c_15_6287, ifc_f a6306, ifc_t a6312, ifc_t a6314, ifc_t trivial, ifc_f (q := False) (fun h9 => h9), ifc_f (q := (2 : Int32) = 0) (by decide), ifc_f (q := (2 : Int32) = 1) (by decide), ifc_t (q := (2 : Int32) = 2) rfl, ifc_f (q := (2 : Int32) = 3) (by decide), ifc_f (q := (2 : Int32) = 4) (by decide)]; rfl)), ⟨fun h9 => absurd ((show SHX x1 2 x3 kq k8 k9 = (-1) from by unfold SHX; simp only [ifc_t ekq, ifc_t ek8, ifc_t ek9, ifc_t hkq, ifc_t hk8, ifc_t hk9, ifc_f c_1_6286, ifc_f c_15_6287, ifc_f a6306, ifc_t a6312, ifc_t a6314, ifc_t trivial, ifc_f (q := False) (fun h9 => h9), ifc_f (q := (2 : Int32) = 0) (by decide), ifc_f (q := (2 : Int32) = 1) (by decide), ifc_t (q := (2 : Int32) = 2) rfl, ifc_f (q := (2 : Int32) = 3) (by decide), ifc_f (q := (2 : Int32) = 4) (by decide)]).symm.trans h9) (by decide), fun _ => ⟨rfl, rfl, rfl⟩⟩⟩) rfl gX12_shelf_4.2.2.2.2.1
            · exact absurd (by unfold Wi; decide) a6314
          · refine lv_if_eq (tgt := 83) hx hb gX12_shelf_3.2.2.2.2.2.1 (by decide) (fun _ => ?_) (fun c9 => absurd (by decide) c9)
            refine lv_iconst (v := (-1)) hx hb gX12_shelf_4.2.2.2.1 (by decide) ?_
            refine toQ hQ0 ?_
            exact RI (v := (-1)) hC hP hD hS [0, 1, 2, 3, 4, 5, 6] (fnsh, fnsf, fnss) rfl rfl (by decide) (⟨(by unfold SHX; first | rfl | (simp only [ifc_t ekq, ifc_t ek8, ifc_t ek9, ifc_t hkq, ifc_t hk8, ifc_t hk9, ifc_f c_1_6286, ifc_f c_15_6287, ifc_f a6306, ifc_f a6312, ifc_t trivial, ifc_f (q := False) (fun h9 => h9), ifc_f (q := (2 : Int32) = 0) (by decide), ifc_f (q := (2 : Int32) = 1) (by decide), ifc_t (q := (2 : Int32) = 2) rfl, ifc_f (q := (2 : Int32) = 3) (by decide), ifc_f (q := (2 : Int32) = 4) (by decide)]; done) | (simp only [ifc_t ekq, ifc_t ek8, ifc_t ek9, ifc_t hkq, ifc_t hk8, ifc_t hk9, ifc_f c_1_6286, ifc_f c_15_6287, ifc_f a6306, ifc_f a6312, ifc_t trivial, ifc_f (q := False) (fun h9 => h9), ifc_f (q := (2 : Int32) = 0) (by decide), ifc_f (q := (2 : Int32) = 1) (by decide), ifc_t (q := (2 : Int32) = 2) rfl, ifc_f (q := (2 : Int32) = 3) (by decide), ifc_f (q := (2 : Int32) = 4) (by decide)]; rfl)), ⟨fun h9 => absurd ((show SHX x1 2 x3 kq k8 k9 = (-1) from by unfold SHX; simp only [ifc_t ekq, ifc_t ek8, ifc_t ek9, ifc_t hkq, ifc_t hk8, ifc_t hk9, ifc_f c_1_6286, ifc_f c_15_6287, ifc_f a6306, ifc_f a6312, ifc_t trivial, ifc_f (q := False) (fun h9 => h9), ifc_f (q := (2 : Int32) = 0) (by decide), ifc_f (q := (2 : Int32) = 1) (by decide), ifc_t (q := (2 : Int32) = 2) rfl, ifc_f (q := (2 : Int32) = 3) (by decide), ifc_f (q := (2 : Int32) = 4) (by decide)]).symm.trans h9) (by decide), fun _ => ⟨rfl, rfl, rfl⟩⟩⟩) rfl gX12_shelf_4.2.2.2.2.1
    · obtain rfl : x2 = 1 := c_15_6287
      refine lv_aload_n hx hb gX12_shelf_1.1 rfl (lv_at0 hl) ?_
      refine lv_iload_n hx hb gX12_shelf_1.2.1 rfl (lv_at3 hl) ?_
      refine lv_bipush (v := 8) hx hb gX12_shelf_1.2.2.1 (by decide) ?_
      refine pV hC hK hl hP hD (m_is l G k8 h0 x3 8 nw nk mhasKept nt mtaped nr mrowMany mroundOf mroundFrom mouts nm mfromHour mtoHour ns mfrom mto msort misFault mdeep mcoded mlines nl nc nF np ntr nb mbestCost nso nsi nit nsh nsf nss nrc mtraced mdealer mnumber mwhose msize misParted fnw (by omega) (ek8) (by omega)) si_X12_120 [0, 1] sm_0_1 fm_0_1 nd_0_1 rfl rfl rfl rfl rfl (Nat.le_of_ble_eq_true rfl) rm_3_2_3 ⟨by first | exact Nat.le_of_ble_eq_true rfl | exact Nat.zero_le _, by first | exact Nat.le_of_ble_eq_true rfl | exact Nat.zero_le _⟩ gX12_shelf_1.2.2.2.1 (Kors (Keqa fun a6316 => ?_) (Keqa fun a6316 => ?_))
      · refine lv_goto (tgt := 60) hx hb gX12_shelf_1.2.2.2.2.1 (by decide) ?_
        refine lv_istore (lv' := [(4, .int 1), (0, .ref h0), (1, .int x1), (2, .int 1), (3, .int x3)]) hx hb gX12_shelf_3.2.2.1 hl (by decide) rfl (fun ls hl => ?_)
        refine lv_iload_n hx hb gX12_shelf_3.2.2.2.1 rfl (lv_at2 hl) ?_
        refine pS hC hK hl (m_isFour l G x1) si_X12_336 rfl rfl (Nat.le_of_ble_eq_true rfl) rm_3_2_1 ⟨by first | exact Nat.le_of_ble_eq_true rfl | exact Nat.zero_le _, by first | exact Nat.le_of_ble_eq_true rfl | exact Nat.zero_le _⟩ gX12_shelf_3.2.2.2.2.1 (Kors (Keqa fun a6318 => ?_) (Keqa fun a6318 => ?_))
        · refine lv_if_eq (tgt := 83) hx hb gX12_shelf_3.2.2.2.2.2.1 (by decide) (fun c9 => absurd c9 (by decide)) (fun _ => ?_)
          refine lv_iload_n hx hb gX12_shelf_3.2.2.2.2.2.2.1 rfl (lv_at3 hl) ?_
          refine lv_iconst (v := 0) hx hb gX12_shelf_3.2.2.2.2.2.2.2.1 (by decide) ?_
          refine lv_iconst (v := 4) hx hb gX12_shelf_3.2.2.2.2.2.2.2.2.1 (by decide) ?_
          refine pS hC hK hl (m_within l G 1 0 4) si_X12_84 rfl rfl (Nat.le_of_ble_eq_true rfl) rm_3_1_3 ⟨by first | exact Nat.le_of_ble_eq_true rfl | exact Nat.zero_le _, by first | exact Nat.le_of_ble_eq_true rfl | exact Nat.zero_le _⟩ gX12_shelf_3.2.2.2.2.2.2.2.2.2 (Kors (Keqa fun a6320 => ?_) (Keqa fun a6320 => ?_))
          · refine lv_if_eq (tgt := 83) hx hb gX12_shelf_4.1 (by decide) (fun c9 => absurd c9 (by decide)) (fun _ => ?_)
            refine lv_iload hx hb gX12_shelf_4.2.1 (lv_at0 hl) ?_
            refine lv_if_ne (tgt := 85) hx hb gX12_shelf_4.2.2.1 (by decide) (fun _ => ?_) (fun c9 => absurd c9 (by decide))
            obtain ⟨js, hjs, rfl⟩ := Wi_nat (N := 3) (by decide) a6318
            refine lv_iload_n hx hb gX12_shelf_4.2.2.2.2.2.1 rfl (lv_at3 hl) ?_
            refine lv_iconst (v := 4) hx hb gX12_shelf_4.2.2.2.2.2.2.1 (by decide) ?_
            refine lv_icmp_eq (tgt := 104) hx hb gX12_shelf_4.2.2.2.2.2.2.2.1 (by decide) (fun c9 => absurd c9 (by decide)) (fun _ => ?_)
            refine lv_iload_n hx hb gX12_shelf_4.2.2.2.2.2.2.2.2.1 rfl (lv_at3 hl) ?_
            refine lv_iconst (v := 3) hx hb gX12_shelf_4.2.2.2.2.2.2.2.2.2 (by decide) ?_
            refine lv_icmp_ne (tgt := 108) hx hb gX12_shelf_5.1 (by decide) (fun _ => ?_) (fun c9 => absurd c9 (by decide))
            refine lv_iconst (v := 0) hx hb gX12_shelf_5.2.2.2.2.2.2.2.2.1 (by decide) ?_
            refine lv_istore (lv' := [(5, .int 0), (4, .int 1), (0, .ref h0), (1, .int (nI js)), (2, .int 1), (3, .int x3)]) hx hb gX12_shelf_5.2.2.2.2.2.2.2.2.2 hl (by decide) rfl (fun ls hl => ?_)
            refine lv_aload_n hx hb gX12_shelf_6.1 rfl (lv_at2 hl) ?_
            refine gf_X12_72 hC rfl hK hP 0 rfl rfl gX12_shelf_6.2.1 ?_
            refine lv_iload_n hx hb gX12_shelf_6.2.2.1 rfl (lv_at3 hl) ?_
            refine lv_iload hx hb gX12_shelf_6.2.2.2.1 (lv_at0 hl) ?_
            refine lv_if_eq (tgt := 125) hx hb gX12_shelf_6.2.2.2.2.1 (by decide) (fun _ => ?_) (fun c9 => absurd (by decide) c9)
            refine lv_iload_n hx hb gX12_shelf_6.2.2.2.2.2.2.2.1 rfl (lv_at4 hl) ?_
            refine lv_iconst (v := 1) hx hb gX12_shelf_6.2.2.2.2.2.2.2.2.1 (by decide) ?_
            refine lv_iadd hx hb gX12_shelf_6.2.2.2.2.2.2.2.2.2 ?_
            refine eqi (x1 := 2) (by decide) ?_
            refine astN hC hK hP hD hS 4 (ws' := [(h0, oX12 nw nk mhasKept nt mtaped nr mrowMany mroundOf mroundFrom mouts nm mfromHour mtoHour ns mfrom mto msort misFault mdeep mcoded mlines nl nc nF np ntr nb mbestCost nso nsi nit nsh nsf nss nrc mtraced mdealer mnumber mwhose msize misParted), (nw, iA G 1662 fnw), (nso, iA G 4 fnso), (nsi, iA G 4 fnsi), (nsh, iA G 4 (upd fnsh js 2)), (nsf, iA G 4 fnsf), (nss, iA G 4 fnss)]) rfl (k := js) (by omega) (Nat.le_of_ble_eq_true rfl) (rfl) gX12_shelf_7.1 (fun H locs hP hD hS => ?_)
            refine lv_aload_n hx hb gX12_shelf_7.2.1 rfl (lv_at2 hl) ?_
            refine gf_X12_75 hC rfl hK hP 0 rfl rfl gX12_shelf_7.2.2.1 ?_
            refine lv_iload_n hx hb gX12_shelf_7.2.2.2.1 rfl (lv_at3 hl) ?_
            refine lv_iload hx hb gX12_shelf_7.2.2.2.2.1 (lv_at0 hl) ?_
            refine lv_if_eq (tgt := 143) hx hb gX12_shelf_7.2.2.2.2.2.1 (by decide) (fun _ => ?_) (fun c9 => absurd (by decide) c9)
            refine lv_iload_n hx hb gX12_shelf_7.2.2.2.2.2.2.2.2.1 rfl (lv_at4 hl) ?_
            refine lv_iconst (v := 3) hx hb gX12_shelf_7.2.2.2.2.2.2.2.2.2 (by decide) ?_
            refine lv_icmp_ne (tgt := 157) hx hb gX12_shelf_8.1 (by decide) (fun _ => ?_) (fun c9 => absurd c9 (by decide))
            refine lv_iload_n hx hb gX12_shelf_8.2.2.2.2.2.2.1 rfl (lv_at5 hl) ?_
            refine astN hC hK hP hD hS 5 (ws' := [(h0, oX12 nw nk mhasKept nt mtaped nr mrowMany mroundOf mroundFrom mouts nm mfromHour mtoHour ns mfrom mto msort misFault mdeep mcoded mlines nl nc nF np ntr nb mbestCost nso nsi nit nsh nsf nss nrc mtraced mdealer mnumber mwhose msize misParted), (nw, iA G 1662 fnw), (nso, iA G 4 fnso), (nsi, iA G 4 fnsi), (nsh, iA G 4 (upd fnsh js 2)), (nsf, iA G 4 (upd fnsf js x3)), (nss, iA G 4 fnss)]) rfl (k := js) (by omega) (Nat.le_of_ble_eq_true rfl) (rfl) gX12_shelf_8.2.2.2.2.2.2.2.1 (fun H locs hP hD hS => ?_)
            refine lv_aload_n hx hb gX12_shelf_8.2.2.2.2.2.2.2.2.1 rfl (lv_at2 hl) ?_
            refine gf_X12_78 hC rfl hK hP 0 rfl rfl gX12_shelf_8.2.2.2.2.2.2.2.2.2 ?_
            refine lv_iload_n hx hb gX12_shelf_9.1 rfl (lv_at3 hl) ?_
            refine lv_iload hx hb gX12_shelf_9.2.1 (lv_at0 hl) ?_
            refine lv_if_ne (tgt := 174) hx hb gX12_shelf_9.2.2.1 (by decide) (fun c9 => absurd (by decide) c9) (fun _ => ?_)
            refine lv_iload_n hx hb gX12_shelf_9.2.2.2.1 rfl (lv_at4 hl) ?_
            refine lv_iconst (v := 3) hx hb gX12_shelf_9.2.2.2.2.1 (by decide) ?_
            refine lv_icmp_ge (tgt := 178) hx hb gX12_shelf_9.2.2.2.2.2.1 (by decide) (fun c9 => absurd c9 (by decide)) (fun _ => ?_)
            refine lv_iconst (v := 0) hx hb gX12_shelf_9.2.2.2.2.2.2.1 (by decide) ?_
            refine lv_goto (tgt := 184) hx hb gX12_shelf_9.2.2.2.2.2.2.2.1 (by decide) ?_
            refine astN hC hK hP hD hS 6 (ws' := [(h0, oX12 nw nk mhasKept nt mtaped nr mrowMany mroundOf mroundFrom mouts nm mfromHour mtoHour ns mfrom mto msort misFault mdeep mcoded mlines nl nc nF np ntr nb mbestCost nso nsi nit nsh nsf nss nrc mtraced mdealer mnumber mwhose msize misParted), (nw, iA G 1662 fnw), (nso, iA G 4 fnso), (nsi, iA G 4 fnsi), (nsh, iA G 4 (upd fnsh js 2)), (nsf, iA G 4 (upd fnsf js x3)), (nss, iA G 4 (upd fnss js 0))]) rfl (k := js) (by omega) (Nat.le_of_ble_eq_true rfl) (rfl) gX12_shelf_10.2.2.1 (fun H locs hP hD hS => ?_)
            refine lv_iconst (v := 1) hx hb gX12_shelf_10.2.2.2.1 (by decide) ?_
            refine toQ hQ0 ?_
            exact RI (v := 1) hC hP hD hS [0, 1, 2, 3, 4, 5, 6] (upd fnsh js 2, upd fnsf js x3, upd fnss js 0) rfl rfl (by decide) (⟨(by unfold SHX; first | rfl | (simp only [ifc_t ekq, ifc_t ek8, ifc_t ek9, ifc_t hkq, ifc_t hk8, ifc_t hk9, ifc_f c_1_6286, ifc_t a6316, ifc_t a6318, ifc_t a6320, ifc_t trivial, ifc_f (q := False) (fun h9 => h9), ifc_f (q := (1 : Int32) = 0) (by decide), ifc_t (q := (1 : Int32) = 1) rfl, ifc_f (q := (1 : Int32) = 2) (by decide), ifc_f (q := (1 : Int32) = 3) (by decide), ifc_f (q := (1 : Int32) = 4) (by decide)]; done) | (simp only [ifc_t ekq, ifc_t ek8, ifc_t ek9, ifc_t hkq, ifc_t hk8, ifc_t hk9, ifc_f c_1_6286, ifc_t a6316, ifc_t a6318, ifc_t a6320, ifc_t trivial, ifc_f (q := False) (fun h9 => h9), ifc_f (q := (1 : Int32) = 0) (by decide), ifc_t (q := (1 : Int32) = 1) rfl, ifc_f (q := (1 : Int32) = 2) (by decide), ifc_f (q := (1 : Int32) = 3) (by decide), ifc_f (q := (1 : Int32) = 4) (by decide)]; rfl)), ⟨fun _ => ⟨2, x3, 0, (by rw [nI_clamp (n := js) (by omega)]; exact ⟨rfl, rfl, rfl, ⟨fun h9 => absurd h9 (by decide), fun h9 => absurd h9 (by decide), fun _ => ⟨by decide, rfl⟩⟩⟩)⟩, fun h9 => absurd (by unfold SHX; simp only [ifc_t ekq, ifc_t ek8, ifc_t ek9, ifc_t hkq, ifc_t hk8, ifc_t hk9, ifc_f c_1_6286, ifc_t a6316, ifc_t a6318, ifc_t a6320, ifc_t trivial, ifc_f (q := False) (fun h9 => h9), ifc_f (q := (1 : Int32) = 0) (by decide), ifc_t (q := (1 : Int32) = 1) rfl, ifc_f (q := (1 : Int32) = 2) (by decide), ifc_f (q := (1 : Int32) = 3) (by decide), ifc_f (q := (1 : Int32) = 4) (by decide)]) h9⟩⟩) rfl gX12_shelf_10.2.2.2.2
          · exact absurd (by unfold Wi; decide) a6320
        · refine lv_if_eq (tgt := 83) hx hb gX12_shelf_3.2.2.2.2.2.1 (by decide) (fun _ => ?_) (fun c9 => absurd (by decide) c9)
          refine lv_iconst (v := (-1)) hx hb gX12_shelf_4.2.2.2.1 (by decide) ?_
          refine toQ hQ0 ?_
          exact RI (v := (-1)) hC hP hD hS [0, 1, 2, 3, 4, 5, 6] (fnsh, fnsf, fnss) rfl rfl (by decide) (⟨(by unfold SHX; first | rfl | (simp only [ifc_t ekq, ifc_t ek8, ifc_t ek9, ifc_t hkq, ifc_t hk8, ifc_t hk9, ifc_f c_1_6286, ifc_t a6316, ifc_f a6318, ifc_t trivial, ifc_f (q := False) (fun h9 => h9), ifc_f (q := (1 : Int32) = 0) (by decide), ifc_t (q := (1 : Int32) = 1) rfl, ifc_f (q := (1 : Int32) = 2) (by decide), ifc_f (q := (1 : Int32) = 3) (by decide), ifc_f (q := (1 : Int32) = 4) (by decide)]; done) | (simp only [ifc_t ekq, ifc_t ek8, ifc_t ek9, ifc_t hkq, ifc_t hk8, ifc_t hk9, ifc_f c_1_6286, ifc_t a6316, ifc_f a6318, ifc_t trivial, ifc_f (q := False) (fun h9 => h9), ifc_f (q := (1 : Int32) = 0) (by decide), ifc_t (q := (1 : Int32) = 1) rfl, ifc_f (q := (1 : Int32) = 2) (by decide), ifc_f (q := (1 : Int32) = 3) (by decide), ifc_f (q := (1 : Int32) = 4) (by decide)]; rfl)), ⟨fun h9 => absurd ((show SHX x1 1 x3 kq k8 k9 = (-1) from by unfold SHX; simp only [ifc_t ekq, ifc_t ek8, ifc_t ek9, ifc_t hkq, ifc_t hk8, ifc_t hk9, ifc_f c_1_6286, ifc_t a6316, ifc_f a6318, ifc_t trivial, ifc_f (q := False) (fun h9 => h9), ifc_f (q := (1 : Int32) = 0) (by decide), ifc_t (q := (1 : Int32) = 1) rfl, ifc_f (q := (1 : Int32) = 2) (by decide), ifc_f (q := (1 : Int32) = 3) (by decide), ifc_f (q := (1 : Int32) = 4) (by decide)]).symm.trans h9) (by decide), fun _ => ⟨rfl, rfl, rfl⟩⟩⟩) rfl gX12_shelf_4.2.2.2.2.1
      · refine lv_goto (tgt := 60) hx hb gX12_shelf_1.2.2.2.2.1 (by decide) ?_
        refine lv_istore (lv' := [(4, .int 0), (0, .ref h0), (1, .int x1), (2, .int 1), (3, .int x3)]) hx hb gX12_shelf_3.2.2.1 hl (by decide) rfl (fun ls hl => ?_)
        refine lv_iload_n hx hb gX12_shelf_3.2.2.2.1 rfl (lv_at2 hl) ?_
        refine pS hC hK hl (m_isFour l G x1) si_X12_336 rfl rfl (Nat.le_of_ble_eq_true rfl) rm_3_2_1 ⟨by first | exact Nat.le_of_ble_eq_true rfl | exact Nat.zero_le _, by first | exact Nat.le_of_ble_eq_true rfl | exact Nat.zero_le _⟩ gX12_shelf_3.2.2.2.2.1 (Kors (Keqa fun a6322 => ?_) (Keqa fun a6322 => ?_))
        · refine lv_if_eq (tgt := 83) hx hb gX12_shelf_3.2.2.2.2.2.1 (by decide) (fun c9 => absurd c9 (by decide)) (fun _ => ?_)
          refine lv_iload_n hx hb gX12_shelf_3.2.2.2.2.2.2.1 rfl (lv_at3 hl) ?_
          refine lv_iconst (v := 0) hx hb gX12_shelf_3.2.2.2.2.2.2.2.1 (by decide) ?_
          refine lv_iconst (v := 4) hx hb gX12_shelf_3.2.2.2.2.2.2.2.2.1 (by decide) ?_
          refine pS hC hK hl (m_within l G 1 0 4) si_X12_84 rfl rfl (Nat.le_of_ble_eq_true rfl) rm_3_1_3 ⟨by first | exact Nat.le_of_ble_eq_true rfl | exact Nat.zero_le _, by first | exact Nat.le_of_ble_eq_true rfl | exact Nat.zero_le _⟩ gX12_shelf_3.2.2.2.2.2.2.2.2.2 (Kors (Keqa fun a6324 => ?_) (Keqa fun a6324 => ?_))
          · refine lv_if_eq (tgt := 83) hx hb gX12_shelf_4.1 (by decide) (fun c9 => absurd c9 (by decide)) (fun _ => ?_)
            refine lv_iload hx hb gX12_shelf_4.2.1 (lv_at0 hl) ?_
            refine lv_if_ne (tgt := 85) hx hb gX12_shelf_4.2.2.1 (by decide) (fun c9 => absurd (by decide) c9) (fun _ => ?_)
            refine lv_iconst (v := (-1)) hx hb gX12_shelf_4.2.2.2.1 (by decide) ?_
            refine toQ hQ0 ?_
            exact RI (v := (-1)) hC hP hD hS [0, 1, 2, 3, 4, 5, 6] (fnsh, fnsf, fnss) rfl rfl (by decide) (⟨(by unfold SHX; first | rfl | (simp only [ifc_t ekq, ifc_t ek8, ifc_t ek9, ifc_t hkq, ifc_t hk8, ifc_t hk9, ifc_f c_1_6286, ifc_f a6316, ifc_t a6322, ifc_t a6324, ifc_t trivial, ifc_f (q := False) (fun h9 => h9), ifc_f (q := (1 : Int32) = 0) (by decide), ifc_t (q := (1 : Int32) = 1) rfl, ifc_f (q := (1 : Int32) = 2) (by decide), ifc_f (q := (1 : Int32) = 3) (by decide), ifc_f (q := (1 : Int32) = 4) (by decide)]; done) | (simp only [ifc_t ekq, ifc_t ek8, ifc_t ek9, ifc_t hkq, ifc_t hk8, ifc_t hk9, ifc_f c_1_6286, ifc_f a6316, ifc_t a6322, ifc_t a6324, ifc_t trivial, ifc_f (q := False) (fun h9 => h9), ifc_f (q := (1 : Int32) = 0) (by decide), ifc_t (q := (1 : Int32) = 1) rfl, ifc_f (q := (1 : Int32) = 2) (by decide), ifc_f (q := (1 : Int32) = 3) (by decide), ifc_f (q := (1 : Int32) = 4) (by decide)]; rfl)), ⟨fun h9 => absurd ((show SHX x1 1 x3 kq k8 k9 = (-1) from by unfold SHX; simp only [ifc_t ekq, ifc_t ek8, ifc_t ek9, ifc_t hkq, ifc_t hk8, ifc_t hk9, ifc_f c_1_6286, ifc_f a6316, ifc_t a6322, ifc_t a6324, ifc_t trivial, ifc_f (q := False) (fun h9 => h9), ifc_f (q := (1 : Int32) = 0) (by decide), ifc_t (q := (1 : Int32) = 1) rfl, ifc_f (q := (1 : Int32) = 2) (by decide), ifc_f (q := (1 : Int32) = 3) (by decide), ifc_f (q := (1 : Int32) = 4) (by decide)]).symm.trans h9) (by decide), fun _ => ⟨rfl, rfl, rfl⟩⟩⟩) rfl gX12_shelf_4.2.2.2.2.1
          · exact absurd (by unfold Wi; decide) a6324
        · refine lv_if_eq (tgt := 83) hx hb gX12_shelf_3.2.2.2.2.2.1 (by decide) (fun _ => ?_) (fun c9 => absurd (by decide) c9)
          refine lv_iconst (v := (-1)) hx hb gX12_shelf_4.2.2.2.1 (by decide) ?_
          refine toQ hQ0 ?_
          exact RI (v := (-1)) hC hP hD hS [0, 1, 2, 3, 4, 5, 6] (fnsh, fnsf, fnss) rfl rfl (by decide) (⟨(by unfold SHX; first | rfl | (simp only [ifc_t ekq, ifc_t ek8, ifc_t ek9, ifc_t hkq, ifc_t hk8, ifc_t hk9, ifc_f c_1_6286, ifc_f a6316, ifc_f a6322, ifc_t trivial, ifc_f (q := False) (fun h9 => h9), ifc_f (q := (1 : Int32) = 0) (by decide), ifc_t (q := (1 : Int32) = 1) rfl, ifc_f (q := (1 : Int32) = 2) (by decide), ifc_f (q := (1 : Int32) = 3) (by decide), ifc_f (q := (1 : Int32) = 4) (by decide)]; done) | (simp only [ifc_t ekq, ifc_t ek8, ifc_t ek9, ifc_t hkq, ifc_t hk8, ifc_t hk9, ifc_f c_1_6286, ifc_f a6316, ifc_f a6322, ifc_t trivial, ifc_f (q := False) (fun h9 => h9), ifc_f (q := (1 : Int32) = 0) (by decide), ifc_t (q := (1 : Int32) = 1) rfl, ifc_f (q := (1 : Int32) = 2) (by decide), ifc_f (q := (1 : Int32) = 3) (by decide), ifc_f (q := (1 : Int32) = 4) (by decide)]; rfl)), ⟨fun h9 => absurd ((show SHX x1 1 x3 kq k8 k9 = (-1) from by unfold SHX; simp only [ifc_t ekq, ifc_t ek8, ifc_t ek9, ifc_t hkq, ifc_t hk8, ifc_t hk9, ifc_f c_1_6286, ifc_f a6316, ifc_f a6322, ifc_t trivial, ifc_f (q := False) (fun h9 => h9), ifc_f (q := (1 : Int32) = 0) (by decide), ifc_t (q := (1 : Int32) = 1) rfl, ifc_f (q := (1 : Int32) = 2) (by decide), ifc_f (q := (1 : Int32) = 3) (by decide), ifc_f (q := (1 : Int32) = 4) (by decide)]).symm.trans h9) (by decide), fun _ => ⟨rfl, rfl, rfl⟩⟩⟩) rfl gX12_shelf_4.2.2.2.2.1
  · obtain rfl : x2 = 0 := c_1_6286
    refine lv_aload_n hx hb gX12_shelf_0.2.2.1 rfl (lv_at0 hl) ?_
    refine lv_iload_n hx hb gX12_shelf_0.2.2.2.1 rfl (lv_at3 hl) ?_
    refine lv_iconst (v := 5) hx hb gX12_shelf_0.2.2.2.2.1 (by decide) ?_
    refine pV hC hK hl hP hD (m_is l G kq h0 x3 5 nw nk mhasKept nt mtaped nr mrowMany mroundOf mroundFrom mouts nm mfromHour mtoHour ns mfrom mto msort misFault mdeep mcoded mlines nl nc nF np ntr nb mbestCost nso nsi nit nsh nsf nss nrc mtraced mdealer mnumber mwhose msize misParted fnw (by omega) (ekq) (by omega)) si_X12_120 [0, 1] sm_0_1 fm_0_1 nd_0_1 rfl rfl rfl rfl rfl (Nat.le_of_ble_eq_true rfl) rm_3_2_3 ⟨by first | exact Nat.le_of_ble_eq_true rfl | exact Nat.zero_le _, by first | exact Nat.le_of_ble_eq_true rfl | exact Nat.zero_le _⟩ gX12_shelf_0.2.2.2.2.2.1 (Kors (Keqa fun a6326 => ?_) (Keqa fun a6326 => ?_))
    · refine lv_goto (tgt := 60) hx hb gX12_shelf_0.2.2.2.2.2.2.1 (by decide) ?_
      refine lv_istore (lv' := [(4, .int 1), (0, .ref h0), (1, .int x1), (2, .int 0), (3, .int x3)]) hx hb gX12_shelf_3.2.2.1 hl (by decide) rfl (fun ls hl => ?_)
      refine lv_iload_n hx hb gX12_shelf_3.2.2.2.1 rfl (lv_at2 hl) ?_
      refine pS hC hK hl (m_isFour l G x1) si_X12_336 rfl rfl (Nat.le_of_ble_eq_true rfl) rm_3_2_1 ⟨by first | exact Nat.le_of_ble_eq_true rfl | exact Nat.zero_le _, by first | exact Nat.le_of_ble_eq_true rfl | exact Nat.zero_le _⟩ gX12_shelf_3.2.2.2.2.1 (Kors (Keqa fun a6328 => ?_) (Keqa fun a6328 => ?_))
      · refine lv_if_eq (tgt := 83) hx hb gX12_shelf_3.2.2.2.2.2.1 (by decide) (fun c9 => absurd c9 (by decide)) (fun _ => ?_)
        refine lv_iload_n hx hb gX12_shelf_3.2.2.2.2.2.2.1 rfl (lv_at3 hl) ?_
        refine lv_iconst (v := 0) hx hb gX12_shelf_3.2.2.2.2.2.2.2.1 (by decide) ?_
        refine lv_iconst (v := 4) hx hb gX12_shelf_3.2.2.2.2.2.2.2.2.1 (by decide) ?_
        refine pS hC hK hl (m_within l G 0 0 4) si_X12_84 rfl rfl (Nat.le_of_ble_eq_true rfl) rm_3_1_3 ⟨by first | exact Nat.le_of_ble_eq_true rfl | exact Nat.zero_le _, by first | exact Nat.le_of_ble_eq_true rfl | exact Nat.zero_le _⟩ gX12_shelf_3.2.2.2.2.2.2.2.2.2 (Kors (Keqa fun a6330 => ?_) (Keqa fun a6330 => ?_))
        · refine lv_if_eq (tgt := 83) hx hb gX12_shelf_4.1 (by decide) (fun c9 => absurd c9 (by decide)) (fun _ => ?_)
          refine lv_iload hx hb gX12_shelf_4.2.1 (lv_at0 hl) ?_
          refine lv_if_ne (tgt := 85) hx hb gX12_shelf_4.2.2.1 (by decide) (fun _ => ?_) (fun c9 => absurd c9 (by decide))
          obtain ⟨js, hjs, rfl⟩ := Wi_nat (N := 3) (by decide) a6328
          refine lv_iload_n hx hb gX12_shelf_4.2.2.2.2.2.1 rfl (lv_at3 hl) ?_
          refine lv_iconst (v := 4) hx hb gX12_shelf_4.2.2.2.2.2.2.1 (by decide) ?_
          refine lv_icmp_eq (tgt := 104) hx hb gX12_shelf_4.2.2.2.2.2.2.2.1 (by decide) (fun c9 => absurd c9 (by decide)) (fun _ => ?_)
          refine lv_iload_n hx hb gX12_shelf_4.2.2.2.2.2.2.2.2.1 rfl (lv_at3 hl) ?_
          refine lv_iconst (v := 3) hx hb gX12_shelf_4.2.2.2.2.2.2.2.2.2 (by decide) ?_
          refine lv_icmp_ne (tgt := 108) hx hb gX12_shelf_5.1 (by decide) (fun _ => ?_) (fun c9 => absurd c9 (by decide))
          refine lv_iconst (v := 0) hx hb gX12_shelf_5.2.2.2.2.2.2.2.2.1 (by decide) ?_
          refine lv_istore (lv' := [(5, .int 0), (4, .int 1), (0, .ref h0), (1, .int (nI js)), (2, .int 0), (3, .int x3)]) hx hb gX12_shelf_5.2.2.2.2.2.2.2.2.2 hl (by decide) rfl (fun ls hl => ?_)
          refine lv_aload_n hx hb gX12_shelf_6.1 rfl (lv_at2 hl) ?_
          refine gf_X12_72 hC rfl hK hP 0 rfl rfl gX12_shelf_6.2.1 ?_
          refine lv_iload_n hx hb gX12_shelf_6.2.2.1 rfl (lv_at3 hl) ?_
          refine lv_iload hx hb gX12_shelf_6.2.2.2.1 (lv_at0 hl) ?_
          refine lv_if_eq (tgt := 125) hx hb gX12_shelf_6.2.2.2.2.1 (by decide) (fun _ => ?_) (fun c9 => absurd (by decide) c9)
          refine lv_iload_n hx hb gX12_shelf_6.2.2.2.2.2.2.2.1 rfl (lv_at4 hl) ?_
          refine lv_iconst (v := 1) hx hb gX12_shelf_6.2.2.2.2.2.2.2.2.1 (by decide) ?_
          refine lv_iadd hx hb gX12_shelf_6.2.2.2.2.2.2.2.2.2 ?_
          refine eqi (x1 := 1) (by decide) ?_
          refine astN hC hK hP hD hS 4 (ws' := [(h0, oX12 nw nk mhasKept nt mtaped nr mrowMany mroundOf mroundFrom mouts nm mfromHour mtoHour ns mfrom mto msort misFault mdeep mcoded mlines nl nc nF np ntr nb mbestCost nso nsi nit nsh nsf nss nrc mtraced mdealer mnumber mwhose msize misParted), (nw, iA G 1662 fnw), (nso, iA G 4 fnso), (nsi, iA G 4 fnsi), (nsh, iA G 4 (upd fnsh js 1)), (nsf, iA G 4 fnsf), (nss, iA G 4 fnss)]) rfl (k := js) (by omega) (Nat.le_of_ble_eq_true rfl) (rfl) gX12_shelf_7.1 (fun H locs hP hD hS => ?_)
          refine lv_aload_n hx hb gX12_shelf_7.2.1 rfl (lv_at2 hl) ?_
          refine gf_X12_75 hC rfl hK hP 0 rfl rfl gX12_shelf_7.2.2.1 ?_
          refine lv_iload_n hx hb gX12_shelf_7.2.2.2.1 rfl (lv_at3 hl) ?_
          refine lv_iload hx hb gX12_shelf_7.2.2.2.2.1 (lv_at0 hl) ?_
          refine lv_if_eq (tgt := 143) hx hb gX12_shelf_7.2.2.2.2.2.1 (by decide) (fun _ => ?_) (fun c9 => absurd (by decide) c9)
          refine lv_iload_n hx hb gX12_shelf_7.2.2.2.2.2.2.2.2.1 rfl (lv_at4 hl) ?_
          refine lv_iconst (v := 3) hx hb gX12_shelf_7.2.2.2.2.2.2.2.2.2 (by decide) ?_
          refine lv_icmp_ne (tgt := 157) hx hb gX12_shelf_8.1 (by decide) (fun _ => ?_) (fun c9 => absurd c9 (by decide))
          refine lv_iload_n hx hb gX12_shelf_8.2.2.2.2.2.2.1 rfl (lv_at5 hl) ?_
          refine astN hC hK hP hD hS 5 (ws' := [(h0, oX12 nw nk mhasKept nt mtaped nr mrowMany mroundOf mroundFrom mouts nm mfromHour mtoHour ns mfrom mto msort misFault mdeep mcoded mlines nl nc nF np ntr nb mbestCost nso nsi nit nsh nsf nss nrc mtraced mdealer mnumber mwhose msize misParted), (nw, iA G 1662 fnw), (nso, iA G 4 fnso), (nsi, iA G 4 fnsi), (nsh, iA G 4 (upd fnsh js 1)), (nsf, iA G 4 (upd fnsf js x3)), (nss, iA G 4 fnss)]) rfl (k := js) (by omega) (Nat.le_of_ble_eq_true rfl) (rfl) gX12_shelf_8.2.2.2.2.2.2.2.1 (fun H locs hP hD hS => ?_)
          refine lv_aload_n hx hb gX12_shelf_8.2.2.2.2.2.2.2.2.1 rfl (lv_at2 hl) ?_
          refine gf_X12_78 hC rfl hK hP 0 rfl rfl gX12_shelf_8.2.2.2.2.2.2.2.2.2 ?_
          refine lv_iload_n hx hb gX12_shelf_9.1 rfl (lv_at3 hl) ?_
          refine lv_iload hx hb gX12_shelf_9.2.1 (lv_at0 hl) ?_
          refine lv_if_ne (tgt := 174) hx hb gX12_shelf_9.2.2.1 (by decide) (fun c9 => absurd (by decide) c9) (fun _ => ?_)
          refine lv_iload_n hx hb gX12_shelf_9.2.2.2.1 rfl (lv_at4 hl) ?_
          refine lv_iconst (v := 3) hx hb gX12_shelf_9.2.2.2.2.1 (by decide) ?_
          refine lv_icmp_ge (tgt := 178) hx hb gX12_shelf_9.2.2.2.2.2.1 (by decide) (fun c9 => absurd c9 (by decide)) (fun _ => ?_)
          refine lv_iconst (v := 0) hx hb gX12_shelf_9.2.2.2.2.2.2.1 (by decide) ?_
          refine lv_goto (tgt := 184) hx hb gX12_shelf_9.2.2.2.2.2.2.2.1 (by decide) ?_
          refine astN hC hK hP hD hS 6 (ws' := [(h0, oX12 nw nk mhasKept nt mtaped nr mrowMany mroundOf mroundFrom mouts nm mfromHour mtoHour ns mfrom mto msort misFault mdeep mcoded mlines nl nc nF np ntr nb mbestCost nso nsi nit nsh nsf nss nrc mtraced mdealer mnumber mwhose msize misParted), (nw, iA G 1662 fnw), (nso, iA G 4 fnso), (nsi, iA G 4 fnsi), (nsh, iA G 4 (upd fnsh js 1)), (nsf, iA G 4 (upd fnsf js x3)), (nss, iA G 4 (upd fnss js 0))]) rfl (k := js) (by omega) (Nat.le_of_ble_eq_true rfl) (rfl) gX12_shelf_10.2.2.1 (fun H locs hP hD hS => ?_)
          refine lv_iconst (v := 1) hx hb gX12_shelf_10.2.2.2.1 (by decide) ?_
          refine toQ hQ0 ?_
          exact RI (v := 1) hC hP hD hS [0, 1, 2, 3, 4, 5, 6] (upd fnsh js 1, upd fnsf js x3, upd fnss js 0) rfl rfl (by decide) (⟨(by unfold SHX; first | rfl | (simp only [ifc_t ekq, ifc_t ek8, ifc_t ek9, ifc_t hkq, ifc_t hk8, ifc_t hk9, ifc_t a6326, ifc_t a6328, ifc_t a6330, ifc_t trivial, ifc_f (q := False) (fun h9 => h9), ifc_t (q := (0 : Int32) = 0) rfl, ifc_f (q := (0 : Int32) = 1) (by decide), ifc_f (q := (0 : Int32) = 2) (by decide), ifc_f (q := (0 : Int32) = 3) (by decide), ifc_f (q := (0 : Int32) = 4) (by decide)]; done) | (simp only [ifc_t ekq, ifc_t ek8, ifc_t ek9, ifc_t hkq, ifc_t hk8, ifc_t hk9, ifc_t a6326, ifc_t a6328, ifc_t a6330, ifc_t trivial, ifc_f (q := False) (fun h9 => h9), ifc_t (q := (0 : Int32) = 0) rfl, ifc_f (q := (0 : Int32) = 1) (by decide), ifc_f (q := (0 : Int32) = 2) (by decide), ifc_f (q := (0 : Int32) = 3) (by decide), ifc_f (q := (0 : Int32) = 4) (by decide)]; rfl)), ⟨fun _ => ⟨1, x3, 0, (by rw [nI_clamp (n := js) (by omega)]; exact ⟨rfl, rfl, rfl, ⟨fun h9 => absurd h9 (by decide), fun h9 => absurd h9 (by decide), fun _ => ⟨by decide, rfl⟩⟩⟩)⟩, fun h9 => absurd (by unfold SHX; simp only [ifc_t ekq, ifc_t ek8, ifc_t ek9, ifc_t hkq, ifc_t hk8, ifc_t hk9, ifc_t a6326, ifc_t a6328, ifc_t a6330, ifc_t trivial, ifc_f (q := False) (fun h9 => h9), ifc_t (q := (0 : Int32) = 0) rfl, ifc_f (q := (0 : Int32) = 1) (by decide), ifc_f (q := (0 : Int32) = 2) (by decide), ifc_f (q := (0 : Int32) = 3) (by decide), ifc_f (q := (0 : Int32) = 4) (by decide)]) h9⟩⟩) rfl gX12_shelf_10.2.2.2.2
        · exact absurd (by unfold Wi; decide) a6330
      · refine lv_if_eq (tgt := 83) hx hb gX12_shelf_3.2.2.2.2.2.1 (by decide) (fun _ => ?_) (fun c9 => absurd (by decide) c9)
        refine lv_iconst (v := (-1)) hx hb gX12_shelf_4.2.2.2.1 (by decide) ?_
        refine toQ hQ0 ?_
        exact RI (v := (-1)) hC hP hD hS [0, 1, 2, 3, 4, 5, 6] (fnsh, fnsf, fnss) rfl rfl (by decide) (⟨(by unfold SHX; first | rfl | (simp only [ifc_t ekq, ifc_t ek8, ifc_t ek9, ifc_t hkq, ifc_t hk8, ifc_t hk9, ifc_t a6326, ifc_f a6328, ifc_t trivial, ifc_f (q := False) (fun h9 => h9), ifc_t (q := (0 : Int32) = 0) rfl, ifc_f (q := (0 : Int32) = 1) (by decide), ifc_f (q := (0 : Int32) = 2) (by decide), ifc_f (q := (0 : Int32) = 3) (by decide), ifc_f (q := (0 : Int32) = 4) (by decide)]; done) | (simp only [ifc_t ekq, ifc_t ek8, ifc_t ek9, ifc_t hkq, ifc_t hk8, ifc_t hk9, ifc_t a6326, ifc_f a6328, ifc_t trivial, ifc_f (q := False) (fun h9 => h9), ifc_t (q := (0 : Int32) = 0) rfl, ifc_f (q := (0 : Int32) = 1) (by decide), ifc_f (q := (0 : Int32) = 2) (by decide), ifc_f (q := (0 : Int32) = 3) (by decide), ifc_f (q := (0 : Int32) = 4) (by decide)]; rfl)), ⟨fun h9 => absurd ((show SHX x1 0 x3 kq k8 k9 = (-1) from by unfold SHX; simp only [ifc_t ekq, ifc_t ek8, ifc_t ek9, ifc_t hkq, ifc_t hk8, ifc_t hk9, ifc_t a6326, ifc_f a6328, ifc_t trivial, ifc_f (q := False) (fun h9 => h9), ifc_t (q := (0 : Int32) = 0) rfl, ifc_f (q := (0 : Int32) = 1) (by decide), ifc_f (q := (0 : Int32) = 2) (by decide), ifc_f (q := (0 : Int32) = 3) (by decide), ifc_f (q := (0 : Int32) = 4) (by decide)]).symm.trans h9) (by decide), fun _ => ⟨rfl, rfl, rfl⟩⟩⟩) rfl gX12_shelf_4.2.2.2.2.1
    · refine lv_goto (tgt := 60) hx hb gX12_shelf_0.2.2.2.2.2.2.1 (by decide) ?_
      refine lv_istore (lv' := [(4, .int 0), (0, .ref h0), (1, .int x1), (2, .int 0), (3, .int x3)]) hx hb gX12_shelf_3.2.2.1 hl (by decide) rfl (fun ls hl => ?_)
      refine lv_iload_n hx hb gX12_shelf_3.2.2.2.1 rfl (lv_at2 hl) ?_
      refine pS hC hK hl (m_isFour l G x1) si_X12_336 rfl rfl (Nat.le_of_ble_eq_true rfl) rm_3_2_1 ⟨by first | exact Nat.le_of_ble_eq_true rfl | exact Nat.zero_le _, by first | exact Nat.le_of_ble_eq_true rfl | exact Nat.zero_le _⟩ gX12_shelf_3.2.2.2.2.1 (Kors (Keqa fun a6332 => ?_) (Keqa fun a6332 => ?_))
      · refine lv_if_eq (tgt := 83) hx hb gX12_shelf_3.2.2.2.2.2.1 (by decide) (fun c9 => absurd c9 (by decide)) (fun _ => ?_)
        refine lv_iload_n hx hb gX12_shelf_3.2.2.2.2.2.2.1 rfl (lv_at3 hl) ?_
        refine lv_iconst (v := 0) hx hb gX12_shelf_3.2.2.2.2.2.2.2.1 (by decide) ?_
        refine lv_iconst (v := 4) hx hb gX12_shelf_3.2.2.2.2.2.2.2.2.1 (by decide) ?_
        refine pS hC hK hl (m_within l G 0 0 4) si_X12_84 rfl rfl (Nat.le_of_ble_eq_true rfl) rm_3_1_3 ⟨by first | exact Nat.le_of_ble_eq_true rfl | exact Nat.zero_le _, by first | exact Nat.le_of_ble_eq_true rfl | exact Nat.zero_le _⟩ gX12_shelf_3.2.2.2.2.2.2.2.2.2 (Kors (Keqa fun a6334 => ?_) (Keqa fun a6334 => ?_))
        · refine lv_if_eq (tgt := 83) hx hb gX12_shelf_4.1 (by decide) (fun c9 => absurd c9 (by decide)) (fun _ => ?_)
          refine lv_iload hx hb gX12_shelf_4.2.1 (lv_at0 hl) ?_
          refine lv_if_ne (tgt := 85) hx hb gX12_shelf_4.2.2.1 (by decide) (fun c9 => absurd (by decide) c9) (fun _ => ?_)
          refine lv_iconst (v := (-1)) hx hb gX12_shelf_4.2.2.2.1 (by decide) ?_
          refine toQ hQ0 ?_
          exact RI (v := (-1)) hC hP hD hS [0, 1, 2, 3, 4, 5, 6] (fnsh, fnsf, fnss) rfl rfl (by decide) (⟨(by unfold SHX; first | rfl | (simp only [ifc_t ekq, ifc_t ek8, ifc_t ek9, ifc_t hkq, ifc_t hk8, ifc_t hk9, ifc_f a6326, ifc_t a6332, ifc_t a6334, ifc_t trivial, ifc_f (q := False) (fun h9 => h9), ifc_t (q := (0 : Int32) = 0) rfl, ifc_f (q := (0 : Int32) = 1) (by decide), ifc_f (q := (0 : Int32) = 2) (by decide), ifc_f (q := (0 : Int32) = 3) (by decide), ifc_f (q := (0 : Int32) = 4) (by decide)]; done) | (simp only [ifc_t ekq, ifc_t ek8, ifc_t ek9, ifc_t hkq, ifc_t hk8, ifc_t hk9, ifc_f a6326, ifc_t a6332, ifc_t a6334, ifc_t trivial, ifc_f (q := False) (fun h9 => h9), ifc_t (q := (0 : Int32) = 0) rfl, ifc_f (q := (0 : Int32) = 1) (by decide), ifc_f (q := (0 : Int32) = 2) (by decide), ifc_f (q := (0 : Int32) = 3) (by decide), ifc_f (q := (0 : Int32) = 4) (by decide)]; rfl)), ⟨fun h9 => absurd ((show SHX x1 0 x3 kq k8 k9 = (-1) from by unfold SHX; simp only [ifc_t ekq, ifc_t ek8, ifc_t ek9, ifc_t hkq, ifc_t hk8, ifc_t hk9, ifc_f a6326, ifc_t a6332, ifc_t a6334, ifc_t trivial, ifc_f (q := False) (fun h9 => h9), ifc_t (q := (0 : Int32) = 0) rfl, ifc_f (q := (0 : Int32) = 1) (by decide), ifc_f (q := (0 : Int32) = 2) (by decide), ifc_f (q := (0 : Int32) = 3) (by decide), ifc_f (q := (0 : Int32) = 4) (by decide)]).symm.trans h9) (by decide), fun _ => ⟨rfl, rfl, rfl⟩⟩⟩) rfl gX12_shelf_4.2.2.2.2.1
        · exact absurd (by unfold Wi; decide) a6334
      · refine lv_if_eq (tgt := 83) hx hb gX12_shelf_3.2.2.2.2.2.1 (by decide) (fun _ => ?_) (fun c9 => absurd (by decide) c9)
        refine lv_iconst (v := (-1)) hx hb gX12_shelf_4.2.2.2.1 (by decide) ?_
        refine toQ hQ0 ?_
        exact RI (v := (-1)) hC hP hD hS [0, 1, 2, 3, 4, 5, 6] (fnsh, fnsf, fnss) rfl rfl (by decide) (⟨(by unfold SHX; first | rfl | (simp only [ifc_t ekq, ifc_t ek8, ifc_t ek9, ifc_t hkq, ifc_t hk8, ifc_t hk9, ifc_f a6326, ifc_f a6332, ifc_t trivial, ifc_f (q := False) (fun h9 => h9), ifc_t (q := (0 : Int32) = 0) rfl, ifc_f (q := (0 : Int32) = 1) (by decide), ifc_f (q := (0 : Int32) = 2) (by decide), ifc_f (q := (0 : Int32) = 3) (by decide), ifc_f (q := (0 : Int32) = 4) (by decide)]; done) | (simp only [ifc_t ekq, ifc_t ek8, ifc_t ek9, ifc_t hkq, ifc_t hk8, ifc_t hk9, ifc_f a6326, ifc_f a6332, ifc_t trivial, ifc_f (q := False) (fun h9 => h9), ifc_t (q := (0 : Int32) = 0) rfl, ifc_f (q := (0 : Int32) = 1) (by decide), ifc_f (q := (0 : Int32) = 2) (by decide), ifc_f (q := (0 : Int32) = 3) (by decide), ifc_f (q := (0 : Int32) = 4) (by decide)]; rfl)), ⟨fun h9 => absurd ((show SHX x1 0 x3 kq k8 k9 = (-1) from by unfold SHX; simp only [ifc_t ekq, ifc_t ek8, ifc_t ek9, ifc_t hkq, ifc_t hk8, ifc_t hk9, ifc_f a6326, ifc_f a6332, ifc_t trivial, ifc_f (q := False) (fun h9 => h9), ifc_t (q := (0 : Int32) = 0) rfl, ifc_f (q := (0 : Int32) = 1) (by decide), ifc_f (q := (0 : Int32) = 2) (by decide), ifc_f (q := (0 : Int32) = 3) (by decide), ifc_f (q := (0 : Int32) = 4) (by decide)]).symm.trans h9) (by decide), fun _ => ⟨rfl, rfl, rfl⟩⟩⟩) rfl gX12_shelf_4.2.2.2.2.1
