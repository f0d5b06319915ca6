section WR
variable {p : Program} {l : Launch} {e : Env} {R : Room} {s : State} {m : MethodId} {args : Array Value} {below : List Frame} {meth : Method} {c : Code} {H : Heap} {locs : List Loc} {cells slots : Nat} {Q : State → Prop}
variable {pc : Nat} {ls : Array Slot} {rest : List Value} {G : GG} {ws : va_W} {A : Nat → Prop} {y0 : MethodName} {b0 : ByteArray} {mL0 : Nat} {rt0 : Option FieldType} {a : Nat} {H0 : Heap}
end WR
/-- how many of the first n bits -/
def PCN (w : Nat) : Nat → Nat
  | 0 => 0
  | n + 1 => PCN w n + (if w.testBit n = true then 1 else 0)
theorem PCN.le {v w : Nat} : ∀ n, (∀ i, i < n → v.testBit i = true → w.testBit i = true) → PCN v n ≤ PCN w n
  | 0, _ => Nat.le_refl _
  | n + 1, h => by
    have h1 := PCN.le n (fun i hi => h i (by omega))
    show PCN v n + (if v.testBit n = true then 1 else 0) ≤ PCN w n + (if w.testBit n = true then 1 else 0)
    by_cases c : v.testBit n = true
    · rw [if_pos c, if_pos (h n (by omega) c)]; omega
    · rw [if_neg c]; omega
theorem PCN.cg {v w : Nat} : ∀ n, (∀ i, i < n → v.testBit i = w.testBit i) → PCN v n = PCN w n := fun n h => Nat.le_antisymm (PCN.le n (fun i hi c => (h i hi).symm.trans c)) (PCN.le n (fun i hi c => (h i hi).trans c))
theorem PCN.top {w : Nat} : ∀ n, PCN w n ≤ n
  | 0 => Nat.le_refl _
  | n + 1 => by
    have h1 := PCN.top (w := w) n
    show PCN w n + (if w.testBit n = true then 1 else 0) ≤ n + 1
    split <;> omega
theorem tb_or {w p q : Nat} : (w ||| 2 ^ p).testBit q = (w.testBit q || decide (p = q)) := by rw [Nat.testBit_or, Nat.testBit_two_pow]
theorem tb_or_eq {w p : Nat} : (w ||| 2 ^ p).testBit p = true := by rw [tb_or, decide_eq_true rfl, Bool.or_true]
theorem tb_or_ne {w p q : Nat} (h : ¬ p = q) : (w ||| 2 ^ p).testBit q = w.testBit q := by rw [tb_or, decide_eq_false h, Bool.or_false]
theorem PCN.or {w p : Nat} (h : w.testBit p = false) : ∀ n, PCN (w ||| 2 ^ p) n = PCN w n + (if p < n then 1 else 0)
  | 0 => by rw [if_neg (Nat.not_lt_zero p)]; rfl
  | n + 1 => by
    show PCN (w ||| 2 ^ p) n + (if (w ||| 2 ^ p).testBit n = true then 1 else 0) = PCN w n + (if w.testBit n = true then 1 else 0) + _
    rw [PCN.or h n]
    by_cases e : p = n
    · subst e
      rw [h, tb_or_eq, if_neg (Nat.lt_irrefl p), if_pos rfl, if_neg (show ¬ ((false : Bool) = true) by decide), if_pos (Nat.lt_succ_self p)]
    · rw [tb_or_ne e]
      by_cases c : p < n
      · rw [if_pos c, if_pos (show p < n + 1 by omega)]; omega
      · rw [if_neg c, if_neg (show ¬ p < n + 1 by omega)]
        simp only [Nat.add_zero]
theorem or_lt {w p : Nat} (hw : w < 4096) (hp : p < 12) : w ||| 2 ^ p < 4096 := Nat.or_lt_two_pow (n := 12) hw (Nat.pow_lt_pow_right (by decide) hp)
theorem tb_hi {w i : Nat} (hw : w < 4096) (hi : 12 ≤ i) : w.testBit i = false := Nat.testBit_lt_two_pow (Nat.lt_of_lt_of_le hw (show 2 ^ 12 ≤ 2 ^ i from Nat.pow_le_pow_right (by decide) hi))
theorem tb_lt {V W P : Nat} (h0 : V.testBit P = false) (h1 : W.testBit P = true) (h : ∀ j, P < j → V.testBit j = W.testBit j) : V < W := by
  have ea : ∀ x j : Nat, (x / 2 ^ P).testBit j = x.testBit (j + P) := fun x j => Nat.testBit_div_two_pow x j
  have e2 : V / 2 ^ P / 2 = W / 2 ^ P / 2 := Nat.eq_of_testBit_eq (fun j => by
    rw [← Nat.testBit_add_one, ← Nat.testBit_add_one, ea, ea]
    exact h _ (by omega))
  have a0 : (V / 2 ^ P).testBit 0 = false := by rw [ea, Nat.zero_add]; exact h0
  have a1 : (W / 2 ^ P).testBit 0 = true := by rw [ea, Nat.zero_add]; exact h1
  rw [Nat.testBit_zero] at a0 a1
  have b0 := of_decide_eq_false a0
  have b1 := of_decide_eq_true a1
  rcases Nat.lt_or_ge V W with c | c
  · exact c
  · have h9 := Nat.div_le_div_right (c := 2 ^ P) c
    omega
theorem tb_ext {v w : Nat} (hv : v < 4096) (hw : w < 4096) (h : ∀ i, i < 12 → v.testBit i = w.testBit i) : v = w := Nat.eq_of_testBit_eq (fun i => by
  by_cases c : i < 12
  · exact h i c
  · rw [tb_hi hv (by omega), tb_hi hw (by omega)])
/-- the best of the sets that are good, if it is better than the best so far -/
def RES (S Gd : Nat → Prop) (l b l2 b2 : Nat) : Prop := (l2 = l ∧ b2 = b ∧ ∀ W, S W → Gd W → l ≤ PCN W 12) ∨ (S b2 ∧ Gd b2 ∧ PCN b2 12 = l2 ∧ l2 < l ∧ ∀ W, S W → Gd W → l2 < PCN W 12 ∨ (l2 = PCN W 12 ∧ b2 ≤ W))
theorem RES.none {S Gd : Nat → Prop} {l b : Nat} (h : ∀ W, S W → Gd W → l ≤ PCN W 12) : RES S Gd l b l b := Or.inl ⟨rfl, rfl, h⟩
theorem RES.leaf {S Gd : Nat → Prop} {l b w : Nat} (h : ∀ W, S W ↔ W = w) (hg : Gd w) (hl : PCN w 12 < l) : RES S Gd l b (PCN w 12) w := Or.inr ⟨(h w).mpr rfl, hg, rfl, hl, fun W hs _ => by
  have e := (h W).mp hs
  subst e
  exact Or.inr ⟨rfl, Nat.le_refl _⟩⟩
theorem RES.cg {S T Gd : Nat → Prop} {l b l2 b2 : Nat} (h : ∀ W, T W ↔ S W) (hr : RES S Gd l b l2 b2) : RES T Gd l b l2 b2 := by
  have e : T = S := funext fun W => propext (h W)
  rw [e]
  exact hr
theorem RES.seq {S S1 S2 Gd : Nat → Prop} {l b l1 b1 l2 b2 : Nat} (h1 : RES S1 Gd l b l1 b1) (h2 : RES S2 Gd l1 b1 l2 b2) (hs : ∀ W, S W ↔ S1 W ∨ S2 W) (ho : ∀ V W, S1 V → S2 W → V < W) : RES S Gd l b l2 b2 := by
  rcases h1 with ⟨a1, a2, a3⟩ | ⟨a1, a2, a3, a4, a5⟩
  · subst a1; subst a2
    rcases h2 with ⟨c1, c2, c3⟩ | ⟨c1, c2, c3, c4, c5⟩
    · exact Or.inl ⟨c1, c2, fun W hw hg => ((hs W).mp hw).elim (fun h => a3 W h hg) (fun h => c3 W h hg)⟩
    · refine Or.inr ⟨(hs b2).mpr (Or.inr c1), c2, c3, c4, fun W hw hg => ?_⟩
      rcases (hs W).mp hw with h | h
      · have := a3 W h hg
        exact Or.inl (by omega)
      · exact c5 W h hg
  · rcases h2 with ⟨c1, c2, c3⟩ | ⟨c1, c2, c3, c4, c5⟩
    · subst c1; subst c2
      refine Or.inr ⟨(hs b2).mpr (Or.inl a1), a2, a3, a4, fun W hw hg => ?_⟩
      rcases (hs W).mp hw with h | h
      · exact a5 W h hg
      · have e1 := c3 W h hg
        have e2 := ho b2 W a1 h
        rcases Nat.lt_or_ge l2 (PCN W 12) with e | e
        · exact Or.inl e
        · exact Or.inr ⟨by omega, by omega⟩
    · refine Or.inr ⟨(hs b2).mpr (Or.inr c1), c2, c3, by omega, fun W hw hg => ?_⟩
      rcases (hs W).mp hw with h | h
      · have := a5 W h hg
        exact Or.inl (by omega)
      · exact c5 W h hg
/-- the sets that are left: the papers from P on are told -/
def TRE (B : Nat → Prop) (P w W : Nat) : Prop := W < 4096 ∧ (∀ p, p < 12 → P ≤ p → W.testBit p = w.testBit p) ∧ ∀ p, p < 12 → W.testBit p = true → B p
/-- a set that is told so far: none below P, of those alone -/
def WST (B : Nat → Prop) (P w : Nat) : Prop := w < 4096 ∧ (∀ p, p < P → w.testBit p = false) ∧ ∀ p, p < 12 → w.testBit p = true → B p
theorem WST.zero {B : Nat → Prop} {P : Nat} : WST B P 0 := ⟨by decide, fun p _ => Nat.zero_testBit p, fun p _ h => by rw [Nat.zero_testBit] at h; exact absurd h (by decide)⟩
theorem WST.dn {B : Nat → Prop} {P w : Nat} (h : WST B (P + 1) w) : WST B P w := ⟨h.1, fun p hp => h.2.1 p (by omega), h.2.2⟩
theorem WST.or {B : Nat → Prop} {P w : Nat} (h : WST B (P + 1) w) (hP : P < 12) (hb : B P) : WST B P (w ||| 2 ^ P) := ⟨or_lt h.1 hP, fun p hp => by rw [tb_or_ne (show ¬ P = p by omega)]; exact h.2.1 p (by omega), fun p hp hc => by
  by_cases e : P = p
  · rw [← e]; exact hb
  · rw [tb_or_ne e] at hc
    exact h.2.2 p hp hc⟩
theorem TRE.one {B : Nat → Prop} {w W : Nat} (h : WST B 0 w) : TRE B 0 w W ↔ W = w := ⟨fun h2 => tb_ext h2.1 h.1 (fun p hp => h2.2.1 p hp (Nat.zero_le _)), fun e => by subst e; exact ⟨h.1, fun _ _ _ => rfl, h.2.2⟩⟩
theorem TRE.skip {B : Nat → Prop} {P w W : Nat} (hw : w.testBit P = false) (hb : ¬ B P) (hP : P < 12) : TRE B (P + 1) w W ↔ TRE B P w W := by
  constructor
  · intro ⟨h1, h2, h3⟩
    refine ⟨h1, fun p hp hq => ?_, h3⟩
    by_cases e : p = P
    · subst e
      rw [hw]
      cases c : W.testBit p with
      | false => rfl
      | true => exact absurd (h3 p hp c) hb
    · exact h2 p hp (by omega)
  · intro ⟨h1, h2, h3⟩
    exact ⟨h1, fun p hp hq => h2 p hp (by omega), h3⟩
theorem TRE.two {B : Nat → Prop} {P w W : Nat} (hw : w.testBit P = false) (hP : P < 12) : TRE B (P + 1) w W ↔ TRE B P w W ∨ TRE B P (w ||| 2 ^ P) W := by
  constructor
  · intro ⟨h1, h2, h3⟩
    cases c : W.testBit P with
    | false =>
      refine Or.inl ⟨h1, fun p hp hq => ?_, h3⟩
      by_cases e : p = P
      · subst e; rw [hw, c]
      · exact h2 p hp (by omega)
    | true =>
      refine Or.inr ⟨h1, fun p hp hq => ?_, h3⟩
      by_cases e : P = p
      · subst e; rw [tb_or_eq, c]
      · rw [tb_or_ne e]; exact h2 p hp (by omega)
  · intro h
    rcases h with ⟨h1, h2, h3⟩ | ⟨h1, h2, h3⟩
    · exact ⟨h1, fun p hp hq => h2 p hp (by omega), h3⟩
    · exact ⟨h1, fun p hp hq => by rw [h2 p hp (by omega), tb_or_ne (show ¬ P = p by omega)], h3⟩
theorem TRE.lt {B : Nat → Prop} {P w V W : Nat} (hw : w.testBit P = false) (hP : P < 12) (h1 : TRE B P w V) (h2 : TRE B P (w ||| 2 ^ P) W) : V < W := by
  refine tb_lt (P := P) ?_ ?_ (fun j hj => ?_)
  · rw [h1.2.1 P hP (Nat.le_refl _)]; exact hw
  · rw [h2.2.1 P hP (Nat.le_refl _)]; exact tb_or_eq
  · by_cases c : j < 12
    · rw [h1.2.1 j c (by omega), h2.2.1 j c (by omega), tb_or_ne (show ¬ P = j by omega)]
    · rw [tb_hi h1.1 (by omega), tb_hi h2.1 (by omega)]
theorem TRE.cnt {B : Nat → Prop} {P w W : Nat} (h : WST B P w) (h2 : TRE B P w W) : PCN w 12 ≤ PCN W 12 := PCN.le 12 (fun i hi c => by
  by_cases e : i < P
  · rw [h.2.1 i e] at c; exact absurd c (by decide)
  · rw [h2.2.1 i hi (by omega)]; exact c)
/-- constraints that go on from others: those of the stamps of some papers -/
def KSG (K0 : Nat → Nat → Int → Prop) (ft : Nat → Int32) (V : Nat → Prop) (gp : Int) (n : Nat) : Nat → Nat → Int → Prop := fun x y w => K0 x y w ∨ ∃ s1 s2, s2 < n ∧ PRC ft V s1 s2 ∧ ((x = CKS ft s1 ∧ y = CKS ft s2 ∧ w = HRS ft s2 - HRS ft s1) ∨ (x = CKS ft s2 ∧ y = CKS ft s1 ∧ w = gp - (HRS ft s2 - HRS ft s1)))
theorem KSG.zero {K0 : Nat → Nat → Int → Prop} {ft : Nat → Int32} {V : Nat → Prop} {gp : Int} : KSG K0 ft V gp 0 = K0 := by
  funext x y w
  apply propext
  constructor
  · intro h
    rcases h with h | ⟨s1, s2, h, -⟩
    · exact h
    · exact absurd h (Nat.not_lt_zero _)
  · exact Or.inl
theorem KSG.no {K0 : Nat → Nat → Int → Prop} {ft : Nat → Int32} {V : Nat → Prop} {gp : Int} {n : Nat} (h : ∀ s1, ¬ PRC ft V s1 n) : KSG K0 ft V gp (n + 1) = KSG K0 ft V gp n := by
  funext x y w
  apply propext
  constructor
  · intro h9
    rcases h9 with h9 | ⟨s1, s2, h1, h2, h3⟩
    · exact Or.inl h9
    · by_cases c : s2 = n
      · rw [c] at h2
        exact absurd h2 (h s1)
      · exact Or.inr ⟨s1, s2, by omega, h2, h3⟩
  · intro h9
    rcases h9 with h9 | ⟨s1, s2, h1, h2, h3⟩
    · exact Or.inl h9
    · exact Or.inr ⟨s1, s2, by omega, h2, h3⟩
theorem KSG.yes {K0 : Nat → Nat → Int → Prop} {ft : Nat → Int32} {V : Nat → Prop} {gp : Int} {n s0 : Nat} (h : PRC ft V s0 n) : KSG K0 ft V gp (n + 1) = KAD (KAD (KSG K0 ft V gp n) (CKS ft s0) (CKS ft n) (HRS ft n - HRS ft s0)) (CKS ft n) (CKS ft s0) (gp - (HRS ft n - HRS ft s0)) := by
  funext x y w
  apply propext
  constructor
  · intro h9
    rcases h9 with h9 | ⟨s1, s2, h1, h2, h3⟩
    · exact Or.inl (Or.inl (Or.inl h9))
    · by_cases c : s2 = n
      · rw [c] at h2 h3
        have e := h2.uniq h
        rw [e] at h3
        rcases h3 with h3 | h3
        · exact Or.inl (Or.inr h3)
        · exact Or.inr h3
      · exact Or.inl (Or.inl (Or.inr ⟨s1, s2, by omega, h2, h3⟩))
  · intro h9
    rcases h9 with (h9 | h9) | h9
    · rcases h9 with h9 | ⟨s1, s2, h1, h2, h3⟩
      · exact Or.inl h9
      · exact Or.inr ⟨s1, s2, by omega, h2, h3⟩
    · exact Or.inr ⟨s0, n, by omega, h, Or.inl h9⟩
    · exact Or.inr ⟨s0, n, by omega, h, Or.inr h9⟩
theorem NOS.mono {K L : Nat → Nat → Int → Prop} (h : NOS K) (e : ∀ x y w, K x y w → L x y w) : NOS L := fun g hg => h g (fun x y w hk => hg x y w (e x y w hk))
theorem KSG.up {K0 : Nat → Nat → Int → Prop} {ft : Nat → Int32} {V : Nat → Prop} {gp : Int} {n m : Nat} (h : n ≤ m) : ∀ x y w, KSG K0 ft V gp n x y w → KSG K0 ft V gp m x y w := fun x y w h9 => by
  rcases h9 with h9 | ⟨s1, s2, h1, h2, h3⟩
  · exact Or.inl h9
  · exact Or.inr ⟨s1, s2, by omega, h2, h3⟩
/-- a paper has more than one stamp -/
def MST (ft : Nat → Int32) (kt p : Nat) : Prop := ∃ s1 s2, s1 < s2 ∧ s2 < kt ∧ ft (s1 * 3 + 0) = nI p ∧ ft (s2 * 3 + 0) = nI p
theorem PRC.sub {ft : Nat → Int32} {V U : Nat → Prop} {kt s1 s2 : Nat} (hp : SVL ft kt) (hs : s2 < kt) (h : PRC ft V s1 s2) (e : ∀ p, p < 12 → MST ft kt p → V p → U p) : PRC ft U s1 s2 := by
  obtain ⟨p, hp12, ep⟩ := (hp s2 hs).1
  have h3 := h.2.2.1
  rw [ep, nI_clamp (by omega)] at h3
  refine ⟨h.1, h.2.1, ?_, h.2.2.2⟩
  rw [ep, nI_clamp (by omega)]
  exact e p hp12 ⟨s1, s2, h.1, hs, h.2.1.trans ep, ep⟩ h3
theorem KST.sub {ft : Nat → Int32} {V U : Nat → Prop} {gp : Int} {kt : Nat} (hp : SVL ft kt) (e : ∀ p, p < 12 → MST ft kt p → V p → U p) : ∀ x y w, KST ft V gp kt x y w → KST ft U gp kt x y w := fun x y w h9 => by
  rcases h9 with h9 | ⟨s1, s2, h1, h2, h3⟩
  · exact Or.inl h9
  · exact Or.inr ⟨s1, s2, h1, PRC.sub hp h1 h2 e, h3⟩
theorem KST.eqv {ft : Nat → Int32} {V U : Nat → Prop} {gp : Int} {kt : Nat} (hp : SVL ft kt) (e : ∀ p, p < 12 → MST ft kt p → (V p ↔ U p)) : KST ft V gp kt = KST ft U gp kt := by
  funext x y w
  exact propext ⟨KST.sub hp (fun p h1 h2 => (e p h1 h2).mp) x y w, KST.sub hp (fun p h1 h2 => (e p h1 h2).mpr) x y w⟩
theorem KSG.join {ft : Nat → Int32} {V : Nat → Prop} {gp : Int} {kt j : Nat} (hp : SVL ft kt) : KSG (KST ft V gp kt) ft (fun q => q = j) gp kt = KST ft (fun q => V q ∨ q = j) gp kt := by
  funext x y w
  apply propext
  constructor
  · intro h9
    rcases h9 with h9 | ⟨s1, s2, h1, h2, h3⟩
    · exact KST.sub hp (fun p _ _ h => Or.inl h) x y w h9
    · exact Or.inr ⟨s1, s2, h1, PRC.sub hp h1 h2 (fun p _ _ h => Or.inr h), h3⟩
  · intro h9
    rcases h9 with h9 | ⟨s1, s2, h1, h2, h3⟩
    · exact Or.inl (Or.inl h9)
    · rcases h2.2.2.1 with h | h
      · exact Or.inl (Or.inr ⟨s1, s2, h1, ⟨h2.1, h2.2.1, h, h2.2.2.2⟩, h3⟩)
      · exact Or.inr ⟨s1, s2, h1, ⟨h2.1, h2.2.1, h, h2.2.2.2⟩, h3⟩
/-- what binds without the papers of a set -/
def KWO (ft : Nat → Int32) (V : Nat → Prop) (gp : Int) (kt W : Nat) : Nat → Nat → Int → Prop := KST ft (fun p => V p ∧ W.testBit p = false) gp kt
/-- what is held so far -/
def KHL (ft : Nat → Int32) (B : Nat → Prop) (gp : Int) (kt P w : Nat) : Nat → Nat → Int → Prop := KST ft (fun q => P ≤ q ∧ B q ∧ w.testBit q = false) gp kt
theorem KHL.base {ft : Nat → Int32} {B : Nat → Prop} {gp : Int} {kt w : Nat} (hp : SVL ft kt) : KHL ft B gp kt 12 w = KB := by
  funext x y v
  refine propext ⟨fun h => ?_, Or.inl⟩
  rcases h with h | ⟨s1, s2, h1, h2, -⟩
  · exact h
  · obtain ⟨p, hp12, ep⟩ := (hp s2 h1).1
    have h3 := h2.2.2.1
    rw [ep, nI_clamp (by omega)] at h3
    exact absurd h3.1 (by omega)
theorem KHL.skip {ft : Nat → Int32} {B : Nat → Prop} {gp : Int} {kt P w : Nat} (hp : SVL ft kt) (hb : ¬ B P) : KHL ft B gp kt P w = KHL ft B gp kt (P + 1) w := KST.eqv hp (fun p _ _ => ⟨fun h => ⟨by
  by_cases e : p = P
  · subst e; exact absurd h.2.1 hb
  · omega, h.2⟩, fun h => ⟨by omega, h.2⟩⟩)
theorem KHL.hold {ft : Nat → Int32} {B : Nat → Prop} {gp : Int} {kt P w : Nat} (hp : SVL ft kt) (hb : B P) (hw : w.testBit P = false) : KSG (KHL ft B gp kt (P + 1) w) ft (fun q => q = P) gp kt = KHL ft B gp kt P w := (KSG.join hp).trans (KST.eqv hp (fun p _ _ => ⟨fun h => by
  rcases h with h | h
  · exact ⟨by omega, h.2⟩
  · subst h; exact ⟨Nat.le_refl _, hb, hw⟩, fun h => by
  by_cases e : p = P
  · exact Or.inr e
  · exact Or.inl ⟨by omega, h.2⟩⟩))
theorem KHL.leave {ft : Nat → Int32} {B : Nat → Prop} {gp : Int} {kt P w : Nat} (hp : SVL ft kt) : KHL ft B gp kt P (w ||| 2 ^ P) = KHL ft B gp kt (P + 1) w := KST.eqv hp (fun p _ _ => ⟨fun h => by
  by_cases e : P = p
  · subst e
    rw [tb_or_eq] at h
    exact absurd h.2.2 (by decide)
  · rw [tb_or_ne e] at h
    exact ⟨by omega, h.2⟩, fun h => by
  rw [tb_or_ne (show ¬ P = p by omega)]
  exact ⟨by omega, h.2⟩⟩)
/-- without this set they don't clash -/
def GDW (ft : Nat → Int32) (V : Nat → Prop) (gp : Int) (kt W : Nat) : Prop := ¬ NOS (KWO ft V gp kt W)
theorem KHL.none {ft : Nat → Int32} {B V : Nat → Prop} {gp : Int} {kt P w W : Nat} (hp : SVL ft kt) (hbv : ∀ p, B p → V p) (h : NOS (KHL ft B gp kt P w)) (ht : TRE B P w W) : ¬ GDW ft V gp kt W := fun hg => hg (h.mono (KST.sub hp (fun p h1 _ h3 => ⟨hbv p h3.2.1, by rw [ht.2.1 p h1 h3.1]; exact h3.2.2⟩)))
theorem KHL.leaf {ft : Nat → Int32} {B V : Nat → Prop} {gp : Int} {kt w : Nat} {M : Nat → Nat → Int} (hp : SVL ft kt) (hbv : ∀ p, B p → V p) (hvb : ∀ p, p < 12 → MST ft kt p → V p → B p) (h : CLB (KHL ft B gp kt 0 w) M) : GDW ft V gp kt w := by
  have e : KHL ft B gp kt 0 w = KWO ft V gp kt w := KST.eqv hp (fun p h1 h2 => ⟨fun h3 => ⟨hbv p h3.2.1, h3.2.2⟩, fun h3 => ⟨Nat.zero_le _, hvb p h1 h2 h3.1, h3.2⟩⟩)
  rw [e] at h
  exact h.nos
/-- DOUBT: of the sets of these papers without which they don't clash the one with the fewest, the least bits -/
def DBQ (ft : Nat → Int32) (V B : Nat → Prop) (gp : Int) (kt W : Nat) : Prop := (W < 4096 ∧ ∀ p, p < 12 → W.testBit p = true → B p) ∧ GDW ft V gp kt W ∧ ∀ U, U < 4096 → (∀ p, p < 12 → U.testBit p = true → B p) → GDW ft V gp kt U → PCN W 12 < PCN U 12 ∨ (PCN W 12 = PCN U 12 ∧ W ≤ U)
/-- the set of those of which a thing holds, among the first n -/
noncomputable def SOF (B : Nat → Prop) : Nat → Nat
  | 0 => 0
  | n + 1 => by
    classical
    exact if B n then SOF B n ||| 2 ^ n else SOF B n
theorem SOF.lt {B : Nat → Prop} : ∀ n, SOF B n < 2 ^ n
  | 0 => show (0 : Nat) < 2 ^ 0 by decide
  | n + 1 => by
    have h := SOF.lt (B := B) n
    have h2 : 2 ^ n < 2 ^ (n + 1) := Nat.pow_lt_pow_right (by decide) (Nat.lt_succ_self n)
    unfold SOF
    split
    · exact Nat.or_lt_two_pow (by omega) h2
    · omega
theorem SOF.bit {B : Nat → Prop} : ∀ n p, (SOF B n).testBit p = true ↔ p < n ∧ B p
  | 0, p => ⟨fun h => by rw [show SOF B 0 = 0 from rfl, Nat.zero_testBit] at h; exact absurd h (by decide), fun h => absurd h.1 (Nat.not_lt_zero _)⟩
  | n + 1, p => by
    have h := SOF.bit (B := B) n p
    unfold SOF
    split
    · rename_i c
      by_cases e : n = p
      · subst e
        rw [tb_or_eq]
        exact ⟨fun _ => ⟨Nat.lt_succ_self _, c⟩, fun _ => rfl⟩
      · rw [tb_or_ne e, h]
        exact ⟨fun h9 => ⟨by omega, h9.2⟩, fun h9 => ⟨by omega, h9.2⟩⟩
    · rename_i c
      rw [h]
      constructor
      · intro h9; exact ⟨by omega, h9.2⟩
      · intro h9
        refine ⟨?_, h9.2⟩
        rcases Nat.lt_or_ge p n with e | e
        · exact e
        · have e2 : p = n := by omega
          subst e2
          exact absurd h9.2 c
/-- without all of them they don't clash -/
theorem GDW.all {ft : Nat → Int32} {V B : Nat → Prop} {gp : Int} {kt : Nat} (hp : SVL ft kt) (hvb : ∀ p, p < 12 → MST ft kt p → V p → B p) : GDW ft V gp kt (SOF B 12) := by
  have e : KWO ft V gp kt (SOF B 12) = KB := by
    funext x y w
    refine propext ⟨fun h => ?_, Or.inl⟩
    rcases h with h | ⟨s1, s2, h1, h2, -⟩
    · exact h
    · obtain ⟨p, hp12, ep⟩ := (hp s2 h1).1
      have h3 := h2.2.2.1
      rw [ep, nI_clamp (by omega)] at h3
      have hb := hvb p hp12 ⟨s1, s2, h2.1, h1, h2.2.1.trans ep, ep⟩ h3.1
      have ht := (SOF.bit (B := B) 12 p).mpr ⟨hp12, hb⟩
      rw [ht] at h3
      exact absurd h3.2 (by decide)
  unfold GDW
  rw [e]
  exact (show CLB KB BASW from ⟨CLO.base, BAS.kb⟩).nos
theorem DBQ.of {ft : Nat → Int32} {V B : Nat → Prop} {gp : Int} {kt l b : Nat} (hp : SVL ft kt) (hvb : ∀ p, p < 12 → MST ft kt p → V p → B p) (h : RES (fun W => W < 4096 ∧ ∀ p, p < 12 → W.testBit p = true → B p) (GDW ft V gp kt) 13 0 l b) : DBQ ft V B gp kt b := by
  have hs : SOF B 12 < 4096 := SOF.lt 12
  have hb : ∀ p, p < 12 → (SOF B 12).testBit p = true → B p := fun p _ h9 => ((SOF.bit 12 p).mp h9).2
  rcases h with ⟨-, -, h3⟩ | ⟨h1, h2, h3, h4, h5⟩
  · have h6 := h3 _ ⟨hs, hb⟩ (GDW.all hp hvb)
    have h7 := PCN.top (w := SOF B 12) 12
    omega
  · exact ⟨h1, h2, fun U hu hub hg => by rw [h3]; exact h5 U ⟨hu, hub⟩ hg⟩
theorem TRE.all {B : Nat → Prop} {W : Nat} : TRE B 12 0 W ↔ (W < 4096 ∧ ∀ p, p < 12 → W.testBit p = true → B p) := ⟨fun h => ⟨h.1, h.2.2⟩, fun h => ⟨h.1, fun p h1 h2 => by omega, h.2⟩⟩
/-- a set without one of its papers -/
def WXO (W p : Nat) : Nat := W ^^^ 2 ^ p
theorem WXO.tb {W p q : Nat} (h : W.testBit p = true) : (WXO W p).testBit q = (W.testBit q && !decide (p = q)) := by
  unfold WXO
  rw [Nat.testBit_xor, Nat.testBit_two_pow]
  by_cases e : p = q
  · subst e; rw [h, decide_eq_true rfl]; rfl
  · rw [decide_eq_false e]; cases W.testBit q <;> rfl
theorem WXO.lt {W p : Nat} (h : W < 4096) (hp : p < 12) : WXO W p < 4096 := Nat.xor_lt_two_pow (n := 12) h (Nat.pow_lt_pow_right (by decide) hp)
theorem WXO.cnt {W p : Nat} (h : W.testBit p = true) (hp : p < 12) : PCN (WXO W p) 12 + 1 = PCN W 12 := by
  have h0 : (WXO W p).testBit p = false := by rw [WXO.tb h, decide_eq_true rfl, h]; rfl
  have h1 := PCN.or h0 12
  rw [if_pos hp] at h1
  have e : PCN (WXO W p ||| 2 ^ p) 12 = PCN W 12 := PCN.cg 12 (fun i _ => by
    by_cases e : p = i
    · subst e; rw [tb_or_eq, h]
    · rw [tb_or_ne e, WXO.tb h, decide_eq_false e]; cases W.testBit i <;> rfl)
  omega
/-- papers with one stamp are in no such set: the sets are the same -/
theorem DBQ.uq {ft : Nat → Int32} {V B C : Nat → Prop} {gp : Int} {kt W U : Nat} (hp : SVL ft kt) (hbc : ∀ p, p < 12 → B p → C p) (hvb : ∀ p, p < 12 → MST ft kt p → V p → B p) (hcv : ∀ p, p < 12 → C p → V p) (h1 : DBQ ft V B gp kt W) (h2 : DBQ ft V C gp kt U) : W = U := by
  obtain ⟨⟨a1, a2⟩, a3, a4⟩ := h1
  obtain ⟨⟨b1, b2⟩, b3, b4⟩ := h2
  have hub : ∀ p, p < 12 → U.testBit p = true → B p := fun p h12 hb => Classical.byContradiction fun hn => by
    have hm : ¬ MST ft kt p := fun h9 => hn (hvb p h12 h9 (hcv p h12 (b2 p h12 hb)))
    have hg : GDW ft V gp kt (WXO U p) := fun h9 => b3 (h9.mono (KST.sub hp (fun q h8 h7 h6 => ⟨h6.1, by
      have h5 := h6.2
      rw [WXO.tb hb] at h5
      by_cases e : p = q
      · subst e; exact absurd h7 hm
      · rw [decide_eq_false e] at h5
        cases c : U.testBit q with
        | false => rfl
        | true => rw [c] at h5; exact absurd h5 (by decide)⟩)))
    have h8 := b4 (WXO U p) (WXO.lt b1 h12) (fun q h7 h6 => b2 q h7 (by
      rw [WXO.tb hb] at h6
      cases c : U.testBit q with
      | true => rfl
      | false => rw [c] at h6; exact Bool.noConfusion (show false = true from h6))) hg
    have h7 := WXO.cnt hb h12
    omega
  have c1 := a4 U b1 hub b3
  have c2 := b4 W a1 (fun p h h9 => hbc p h (a2 p h h9)) a3
  omega
theorem cpyd (f g : Nat → Int32) (n : Nat) : ∀ j, j < n → va_cpy f g 0 0 n j = f j := by
  intro j hj
  unfold va_cpy
  rw [if_pos ⟨Nat.zero_le j, by omega⟩]
  congr 1
  omega
theorem CLB.cg {K : Nat → Nat → Int → Prop} {f g : Nat → Int32} (h : CLB K (MAT f)) (e : ∀ j, j < 36 → g j = f j) : CLB K (MAT g) := ⟨h.1.ext fun a b ha hb => congrArg Int32.toInt (e (a * 6 + b) (by omega)), h.2⟩
theorem sh12 : ∀ k : Fin 12, (1 : Int32) <<< (nI k.1 &&& 31) = nI (2 ^ k.1) ∧ ((nI k.1 &&& 31).toBitVec.smod 32).toNat = k.1 := by decide +kernel
theorem nI_or (a b : Nat) : nI a ||| nI b = nI (a ||| b) := by
  apply Int32.toBitVec_inj.1
  show BitVec.ofNat 32 a ||| BitVec.ofNat 32 b = BitVec.ofNat 32 (a ||| b)
  apply BitVec.eq_of_getLsbD_eq
  intro i hi
  simp [hi]
theorem nI_orb {w p : Nat} (hp : p < 12) : nI w ||| 1 <<< (nI p &&& 31) = nI (w ||| 2 ^ p) := by rw [(sh12 ⟨p, hp⟩).1, nI_or]
theorem HB.tw {j p : Nat} (hj : j < 4096) (hp : p < 12) : HB (nI j) (nI p) ↔ j.testBit p = true := by
  have h5 := (sh12 ⟨p, hp⟩).2
  have h6 : j / 2 ^ p ≤ j := Nat.div_le_self _ _
  have h7 : (nI j >>> (nI p &&& 31)) &&& 1 = nI (j / 2 ^ p % 2) := by
    rw [pk_shrN (by omega) _ p h5]
    exact pk_andN (by omega) 1 (by decide)
  rw [Nat.testBit_eq_decide_div_mod_eq]
  have hm : j / 2 ^ p % 2 < 2 := Nat.mod_lt _ (by decide)
  constructor
  · intro h
    have h8 := h7.symm.trans h.2.2
    exact decide_eq_true ((nI_eq (b := 1) (by omega) (by decide)).mp h8)
  · intro h
    have h9 := of_decide_eq_true h
    refine ⟨nI_pos (by omega), fun h10 => absurd ((nI_leI (a := 31) (b := p) (by decide) (by omega)).mp h10) (by omega), ?_⟩
    rw [h7, h9]
    rfl
/-- the k-th of the matrices -/
def MGT (fs : List (Nat → Int32)) (k : Nat) : Nat → Int32 := fs.getD k (fun _ => 0)
/-- the matrices up to a level are kept -/
def MKP (fs gs : List (Nat → Int32)) (k : Nat) : Prop := ∀ j, j ≤ k → MGT gs j = MGT fs j
theorem MKP.rf {fs : List (Nat → Int32)} {k : Nat} : MKP fs fs k := fun _ _ => rfl
theorem MKP.tr {fs gs hs : List (Nat → Int32)} {k : Nat} (h : MKP fs gs k) (h2 : MKP gs hs k) : MKP fs hs k := fun j hj => (h2 j hj).trans (h j hj)
theorem MKP.le {fs gs : List (Nat → Int32)} {k m : Nat} (h : MKP fs gs k) (hm : m ≤ k) : MKP fs gs m := fun j hj => h j (by omega)
theorem RES.le {S Gd : Nat → Prop} {l b l2 b2 : Nat} (h : RES S Gd l b l2 b2) : l2 ≤ l := by
  rcases h with ⟨h1, -⟩ | ⟨-, -, -, h1, -⟩ <;> omega
/-- how many of the first n are so, and what that says -/
theorem CNT.two {P : Nat → Prop} : ∀ n, n ≤ 24 → ∃ c, c ≤ n ∧ CNT P n = nI c ∧ (0 < c ↔ ∃ s, s < n ∧ P s) ∧ (1 < c ↔ ∃ s1 s2, s1 < s2 ∧ s2 < n ∧ P s1 ∧ P s2)
  | 0, _ => ⟨0, Nat.le_refl _, rfl, ⟨fun h => absurd h (by omega), fun ⟨s, h, _⟩ => absurd h (Nat.not_lt_zero s)⟩, ⟨fun h => absurd h (by omega), fun ⟨_, s, _, h, _⟩ => absurd h (Nat.not_lt_zero s)⟩⟩
  | n + 1, hn => by
    obtain ⟨c, h1, h2, h3, h4⟩ := CNT.two (P := P) n (by omega)
    by_cases p : P n
    · refine ⟨c + 1, by omega, ?_, ⟨fun _ => ⟨n, Nat.lt_succ_self n, p⟩, fun _ => by omega⟩, ⟨fun h => ?_, fun ⟨s1, s2, a1, a2, a3, a4⟩ => ?_⟩⟩
      · show ifc (P n) (CNT P n + 1) (CNT P n) = nI (c + 1)
        rw [ifc_t p, h2]
        exact nI_1 c
      · obtain ⟨s, hs, ps⟩ := h3.mp (by omega)
        exact ⟨s, n, hs, Nat.lt_succ_self n, ps, p⟩
      · have h5 := h3.mpr ⟨s1, by omega, a3⟩
        omega
    · refine ⟨c, by omega, ?_, ⟨fun h => ?_, fun ⟨s, a1, a2⟩ => ?_⟩, ⟨fun h => ?_, fun ⟨s1, s2, a1, a2, a3, a4⟩ => ?_⟩⟩
      · show ifc (P n) (CNT P n + 1) (CNT P n) = nI c
        rw [ifc_f p, h2]
      · obtain ⟨s, hs, ps⟩ := h3.mp h
        exact ⟨s, by omega, ps⟩
      · by_cases e : s = n
        · subst e; exact absurd a2 p
        · exact h3.mpr ⟨s, by omega, a2⟩
      · obtain ⟨s1, s2, a1, a2, a3, a4⟩ := h4.mp h
        exact ⟨s1, s2, a1, by omega, a3, a4⟩
      · by_cases e : s2 = n
        · subst e; exact absurd a4 p
        · exact h4.mpr ⟨s1, s2, a1, by omega, a3, a4⟩
theorem MST.cnt {ft : Nat → Int32} {kt p : Nat} (hk : kt ≤ 24) : ¬ CNT (fun s9 => ft (s9 * 3 + 0) = nI p) kt ≤ 1 ↔ MST ft kt p := by
  obtain ⟨c, h1, h2, -, h4⟩ := CNT.two (P := fun s9 => ft (s9 * 3 + 0) = nI p) kt hk
  rw [h2]
  have e : nI c ≤ 1 ↔ c ≤ 1 := nI_leI (a := c) (b := 1) (by omega) (by decide)
  rw [e]
  constructor
  · intro h
    obtain ⟨s1, s2, a1, a2, a3, a4⟩ := h4.mp (by omega)
    exact ⟨s1, s2, a1, a2, a3, a4⟩
  · intro ⟨s1, s2, a1, a2, a3, a4⟩
    have := h4.mpr ⟨s1, s2, a1, a2, a3, a4⟩
    omega
theorem SOF.y {B : Nat → Prop} {n : Nat} (h : B n) : SOF B (n + 1) = SOF B n ||| 2 ^ n := by
  show @ite _ (B n) (Classical.propDecidable (B n)) (SOF B n ||| 2 ^ n) (SOF B n) = _
  rw [if_pos h]
theorem SOF.n {B : Nat → Prop} {n : Nat} (h : ¬ B n) : SOF B (n + 1) = SOF B n := by
  show @ite _ (B n) (Classical.propDecidable (B n)) (SOF B n ||| 2 ^ n) (SOF B n) = _
  rw [if_neg h]
theorem SOF.hb {B : Nat → Prop} {k p : Nat} (hk : k ≤ 12) (hp : p < 12) (hb : B p → p < k) : HB (nI (SOF B k)) (nI p) ↔ B p := by
  have h1 : SOF B k < 4096 := Nat.lt_of_lt_of_le (SOF.lt k) (show 2 ^ k ≤ 2 ^ 12 from Nat.pow_le_pow_right (by decide) hk)
  rw [HB.tw h1 hp, SOF.bit]
  exact ⟨fun h => h.2, fun h => ⟨hb h, h⟩⟩
theorem KFO.sg {K0 : Nat → Nat → Int → Prop} {ft : Nat → Int32} {V : Nat → Prop} {gp : Int} {n s0 : Nat} (h : PRC ft V s0 n) : KSG K0 ft V gp (n + 1) = KFO (KSG K0 ft V gp n) ft gp s0 n := KSG.yes h
/-- papers that are seen and bind a clock -/
def BDB (ft : Nat → Int32) (kt : Nat) (pp : Int32) : Nat → Prop := fun p => VPP pp p ∧ MST ft kt p
/-- what clash answers -/
def CLQ (K : Nat → Nat → Int → Prop) (D : Nat → Prop) (x r : Int32) : Prop := (¬ Wi x 0 1 ∧ r = (-1)) ∨ (Wi x 0 1 ∧ ¬ x = 1 ∧ ((NOS K ∧ r = 1) ∨ (¬ NOS K ∧ r = 0))) ∨ (Wi x 0 1 ∧ x = 1 ∧ ∃ W, D W ∧ r = nI W)
theorem CLQ.uq {K L : Nat → Nat → Int → Prop} {D E : Nat → Prop} {x r s : Int32} (h1 : CLQ K D x r) (h2 : CLQ L E x s) (e : K = L) (hd : ∀ W U, D W → E U → W = U) : r = s := by
  subst e
  rcases h1 with ⟨a, b⟩ | ⟨a, b, c⟩ | ⟨a, b, W, c, d⟩
  · rcases h2 with ⟨a2, b2⟩ | ⟨a2, -⟩ | ⟨a2, -⟩
    · exact b.trans b2.symm
    · exact absurd a2 a
    · exact absurd a2 a
  · rcases h2 with ⟨a2, -⟩ | ⟨-, b2, c2⟩ | ⟨-, b2, -⟩
    · exact absurd a a2
    · rcases c with ⟨c, d⟩ | ⟨c, d⟩
      · rcases c2 with ⟨c2, d2⟩ | ⟨c2, d2⟩
        · exact d.trans d2.symm
        · exact absurd c c2
      · rcases c2 with ⟨c2, d2⟩ | ⟨c2, d2⟩
        · exact absurd c2 c
        · exact d.trans d2.symm
    · exact absurd b2 b
  · rcases h2 with ⟨a2, -⟩ | ⟨-, b2, -⟩ | ⟨-, b2, U, c2, d2⟩
    · exact absurd a a2
    · exact absurd b b2
    · rw [d, d2, hd W U c c2]
section WR
variable {p : Program} {l : Launch} {e : Env} {R : Room} {s : State} {m : MethodId} {args : Array Value} {below : List Frame} {meth : Method} {c : Code} {H : Heap} {locs : List Loc} {cells slots : Nat} {Q : State → Prop}
variable {pc : Nat} {ls : Array Slot} {rest : List Value} {G : GG} {ws : va_W} {A : Nat → Prop} {y0 : MethodName} {b0 : ByteArray} {mL0 : Nat} {rt0 : Option FieldType} {a : Nat} {H0 : Heap}
theorem gX11_clash_0 : (decode cX11_clash 0 = .ok (.iload_n 1, 1)) ∧ (decode cX11_clash 1 = .ok (.iconst 0, 1)) ∧ (decode cX11_clash 2 = .ok (.iconst 1, 1)) ∧ (decode cX11_clash 3 = .ok (.invokestatic 83, 3)) ∧ (decode cX11_clash 6 = .ok (.ifCond .ne 5, 3)) ∧ (decode cX11_clash 9 = .ok (.iconst (-1), 1)) ∧ (decode cX11_clash 10 = .ok (.ireturn, 1)) ∧ (decode cX11_clash 11 = .ok (.iload_n 1, 1)) ∧ (decode cX11_clash 12 = .ok (.iconst 1, 1)) ∧ (decode cX11_clash 13 = .ok (.if_icmp .ne 18, 3)) := by decide +kernel
theorem gX11_clash_1 : (decode cX11_clash 16 = .ok (.aload_n 0, 1)) ∧ (decode cX11_clash 17 = .ok (.getfield 35, 3)) ∧ (decode cX11_clash 20 = .ok (.aload_n 0, 1)) ∧ (decode cX11_clash 21 = .ok (.getfield 15, 3)) ∧ (decode cX11_clash 24 = .ok (.invokevirtual 97, 3)) ∧ (decode cX11_clash 27 = .ok (.invokevirtual 180, 3)) ∧ (decode cX11_clash 30 = .ok (.ireturn, 1)) ∧ (decode cX11_clash 31 = .ok (.aload_n 0, 1)) ∧ (decode cX11_clash 32 = .ok (.getfield 28, 3)) ∧ (decode cX11_clash 35 = .ok (.aload_n 0, 1)) := by decide +kernel
theorem gX11_clash_2 : (decode cX11_clash 36 = .ok (.getfield 15, 3)) ∧ (decode cX11_clash 39 = .ok (.invokevirtual 97, 3)) ∧ (decode cX11_clash 42 = .ok (.invokevirtual 183, 3)) ∧ (decode cX11_clash 45 = .ok (.aload_n 0, 1)) ∧ (decode cX11_clash 46 = .ok (.getfield 28, 3)) ∧ (decode cX11_clash 49 = .ok (.invokevirtual 187, 3)) ∧ (decode cX11_clash 52 = .ok (.ifCond .eq 7, 3)) ∧ (decode cX11_clash 55 = .ok (.iconst 1, 1)) ∧ (decode cX11_clash 56 = .ok (.goto 4, 3)) ∧ (decode cX11_clash 59 = .ok (.iconst 0, 1)) := by decide +kernel
theorem gX11_clash_3 : (decode cX11_clash 60 = .ok (.ireturn, 1)) := by decide +kernel
theorem m_281 : Cond.fieldLink RX11 35 "InquiryBench" "doubt" "LInquiryBench$Doubt;" ∈ BW := iB_BW15 _ (List.mem_of_getElem? (i := 7) rfl)
theorem gf_X11_35 (hC : CX p s m meth c y0 b0 mL0 rt0 args) (hy0 : y0.cls = RX11) (hK : KK G s) (hP : va_P G.1 vwCl ws H) (q0 : Nat) {fs : List Value} {v : Value} (he : ws[q0]? = some (a, .inr (11, fs))) (hv : fs[4]? = some v) (hdg : decode b0 pc = .ok (.getfield 35, 3)) (kk : W p l e R s m args below meth c H locs cells slots Q (F0 m (pc + 3) ls (v :: rest))) : W p l e R s m args below meth c H locs cells slots Q (F0 m pc ls (.ref a :: rest)) := by
  obtain ⟨hx, hb, hr, hml, hB, hown, hlocks, hnm⟩ := hC
  rw [hy0] at hown
  exact va_get (ci := 11) (C := RX11) (T := TX11) (N := 11) hx hb hB in_X11 hown hK.1 hP q0 he rfl 4 (by decide) (hB _ m_281) (fun _ h => h) hv hdg kk
theorem m_436 : Cond.code yX3_fewest cX3_fewest 3 (some .int) ∈ BW := iB_BW24 _ (List.mem_of_getElem? (i := 0) rfl)
theorem m_433 : Cond.methodLink RX11 180 yX3_fewest ∈ BW := iB_BW23 _ (List.mem_of_getElem? (i := 17) rfl)
theorem m_434 : Cond.instanceMethod yX3_fewest ∈ BW := iB_BW23 _ (List.mem_of_getElem? (i := 18) rfl)
theorem m_435 : Cond.selects RX3 yX3_fewest yX3_fewest ∈ BW := iB_BW23 _ (List.mem_of_getElem? (i := 19) rfl)
theorem si_X11_180 : SV RX11 RX3 180 yX3_fewest cX3_fewest 3 (some .int) 1 := ⟨⟨m_433, m_434, m_435, m_108, m_436⟩, rfl, nK_RX3.1, nK_RX3.2, pd_7⟩
theorem gX11_knownFrom_0 : (decode cX11_knownFrom 0 = .ok (.aload_n 0, 1)) ∧ (decode cX11_knownFrom 1 = .ok (.getfield 28, 3)) ∧ (decode cX11_knownFrom 4 = .ok (.iload 4, 2)) ∧ (decode cX11_knownFrom 6 = .ok (.invokevirtual 183, 3)) ∧ (decode cX11_knownFrom 9 = .ok (.iload_n 3, 1)) ∧ (decode cX11_knownFrom 10 = .ok (.iconst 2, 1)) ∧ (decode cX11_knownFrom 11 = .ok (.if_icmp .eq 22, 3)) ∧ (decode cX11_knownFrom 14 = .ok (.aload_n 0, 1)) ∧ (decode cX11_knownFrom 15 = .ok (.getfield 28, 3)) ∧ (decode cX11_knownFrom 18 = .ok (.iload_n 1, 1)) := by decide +kernel
theorem gX11_knownFrom_1 : (decode cX11_knownFrom 19 = .ok (.iload_n 2, 1)) ∧ (decode cX11_knownFrom 20 = .ok (.iload_n 3, 1)) ∧ (decode cX11_knownFrom 21 = .ok (.ifCond .ne 7, 3)) ∧ (decode cX11_knownFrom 24 = .ok (.iconst 1, 1)) ∧ (decode cX11_knownFrom 25 = .ok (.goto 4, 3)) ∧ (decode cX11_knownFrom 28 = .ok (.iconst 0, 1)) ∧ (decode cX11_knownFrom 29 = .ok (.invokevirtual 250, 3)) ∧ (decode cX11_knownFrom 32 = .ok (.ireturn, 1)) ∧ (decode cX11_knownFrom 33 = .ok (.aload_n 0, 1)) ∧ (decode cX11_knownFrom 34 = .ok (.getfield 44, 3)) := by decide +kernel
theorem m_282 : Cond.fieldLink RX11 44 "InquiryBench" "rules" "LInquiryBench$Rules;" ∈ BW := iB_BW15 _ (List.mem_of_getElem? (i := 8) rfl)
theorem gf_X11_44 (hC : CX p s m meth c y0 b0 mL0 rt0 args) (hy0 : y0.cls = RX11) (hK : KK G s) (hP : va_P G.1 vwCl ws H) (q0 : Nat) {fs : List Value} {v : Value} (he : ws[q0]? = some (a, .inr (11, fs))) (hv : fs[5]? = some v) (hdg : decode b0 pc = .ok (.getfield 44, 3)) (kk : W p l e R s m args below meth c H locs cells slots Q (F0 m (pc + 3) ls (v :: rest))) : W p l e R s m args below meth c H locs cells slots Q (F0 m pc ls (.ref a :: rest)) := by
  obtain ⟨hx, hb, hr, hml, hB, hown, hlocks, hnm⟩ := hC
  rw [hy0] at hown
  exact va_get (ci := 11) (C := RX11) (T := TX11) (N := 11) hx hb hB in_X11 hown hK.1 hP q0 he rfl 5 (by decide) (hB _ m_282) (fun _ h => h) hv hdg kk
theorem gX11_knownFrom_2 : (decode cX11_knownFrom 37 = .ok (.iload_n 1, 1)) ∧ (decode cX11_knownFrom 38 = .ok (.iload 4, 2)) ∧ (decode cX11_knownFrom 40 = .ok (.invokevirtual 243, 3)) ∧ (decode cX11_knownFrom 43 = .ok (.aload_n 0, 1)) ∧ (decode cX11_knownFrom 44 = .ok (.getfield 44, 3)) ∧ (decode cX11_knownFrom 47 = .ok (.iload_n 2, 1)) ∧ (decode cX11_knownFrom 48 = .ok (.invokevirtual 247, 3)) ∧ (decode cX11_knownFrom 51 = .ok (.ireturn, 1)) := by decide +kernel
theorem m_565 : Cond.code yX6_settle cX6_settle 5 none ∈ BW := iB_BW30 _ (List.mem_of_getElem? (i := 9) rfl)
theorem m_562 : Cond.methodLink RX11 243 yX6_settle ∈ BW := iB_BW30 _ (List.mem_of_getElem? (i := 6) rfl)
theorem m_563 : Cond.instanceMethod yX6_settle ∈ BW := iB_BW30 _ (List.mem_of_getElem? (i := 7) rfl)
theorem m_564 : Cond.selects RX6 yX6_settle yX6_settle ∈ BW := iB_BW30 _ (List.mem_of_getElem? (i := 8) rfl)
theorem si_X11_243 : SV RX11 RX6 243 yX6_settle cX6_settle 5 none 2 := ⟨⟨m_562, m_563, m_564, m_109, m_565⟩, rfl, nK_RX6.1, nK_RX6.2, pd_14⟩
theorem m_598 : Cond.methodLink RX11 247 yX6_shouldHour ∈ BW := iB_BW32 _ (List.mem_of_getElem? (i := 18) rfl)
theorem si_X11_247 : SV RX11 RX6 247 yX6_shouldHour cX6_shouldHour 2 (some .int) 1 := ⟨⟨m_598, m_594, m_595, m_109, m_596⟩, rfl, nK_RX6.1, nK_RX6.2, pd_7⟩
theorem m_554 : Cond.methodLink RX11 250 yX7_toldHour ∈ BW := iB_BW29 _ (List.mem_of_getElem? (i := 18) rfl)
theorem si_X11_250 : SV RX11 RX7 250 yX7_toldHour cX7_toldHour 6 (some .int) 3 := ⟨⟨m_554, m_555, m_556, m_106, m_557⟩, rfl, nK_RX7.1, nK_RX7.2, pd_6⟩
theorem gX11_knew_0 : (decode cX11_knew 0 = .ok (.aload_n 0, 1)) ∧ (decode cX11_knew 1 = .ok (.getfield 15, 3)) ∧ (decode cX11_knew 4 = .ok (.getfield 107, 3)) ∧ (decode cX11_knew 7 = .ok (.iload_n 1, 1)) ∧ (decode cX11_knew 8 = .ok (.invokevirtual 124, 3)) ∧ (decode cX11_knew 11 = .ok (.ifCond .eq 17, 3)) ∧ (decode cX11_knew 14 = .ok (.iload_n 2, 1)) ∧ (decode cX11_knew 15 = .ok (.invokestatic 213, 3)) ∧ (decode cX11_knew 18 = .ok (.ifCond .eq 10, 3)) ∧ (decode cX11_knew 21 = .ok (.iload_n 3, 1)) := by decide +kernel
theorem gX11_knew_1 : (decode cX11_knew 22 = .ok (.invokestatic 216, 3)) ∧ (decode cX11_knew 25 = .ok (.ifCond .ne 5, 3)) ∧ (decode cX11_knew 28 = .ok (.iconst (-1), 1)) ∧ (decode cX11_knew 29 = .ok (.ireturn, 1)) ∧ (decode cX11_knew 30 = .ok (.aload_n 0, 1)) ∧ (decode cX11_knew 31 = .ok (.iload_n 1, 1)) ∧ (decode cX11_knew 32 = .ok (.iload_n 2, 1)) ∧ (decode cX11_knew 33 = .ok (.iload_n 3, 1)) ∧ (decode cX11_knew 34 = .ok (.aload_n 0, 1)) ∧ (decode cX11_knew 35 = .ok (.getfield 15, 3)) := by decide +kernel
theorem gX11_knew_2 : (decode cX11_knew 38 = .ok (.invokevirtual 97, 3)) ∧ (decode cX11_knew 41 = .ok (.invokevirtual 219, 3)) ∧ (decode cX11_knew 44 = .ok (.istore 4, 2)) ∧ (decode cX11_knew 46 = .ok (.iload 4, 2)) ∧ (decode cX11_knew 48 = .ok (.ldc 223, 2)) ∧ (decode cX11_knew 50 = .ok (.if_icmp .ne 8, 3)) ∧ (decode cX11_knew 53 = .ok (.bipush (-3), 2)) ∧ (decode cX11_knew 55 = .ok (.goto 9, 3)) ∧ (decode cX11_knew 58 = .ok (.iload 4, 2)) ∧ (decode cX11_knew 60 = .ok (.sipush 1000, 3)) := by decide +kernel
theorem m_553 : Cond.code yX11_knownFrom cX11_knownFrom 5 (some .int) ∈ BW := iB_BW29 _ (List.mem_of_getElem? (i := 17) rfl)
theorem m_551 : Cond.methodLink RX11 219 yX11_knownFrom ∈ BW := iB_BW29 _ (List.mem_of_getElem? (i := 15) rfl)
theorem m_552 : Cond.instanceMethod yX11_knownFrom ∈ BW := iB_BW29 _ (List.mem_of_getElem? (i := 16) rfl)
theorem m_8 : Cond.selects RX11 yX11_knownFrom yX11_knownFrom ∈ BW := iB_BW0 _ (List.mem_of_getElem? (i := 8) rfl)
theorem si_X11_219 : SV RX11 RX11 219 yX11_knownFrom cX11_knownFrom 5 (some .int) 4 := ⟨⟨m_551, m_552, m_8, m_102, m_553⟩, rfl, nK_RX11.1, nK_RX11.2, pd_17⟩
theorem m_599 : Cond.constant RX11 223 (1000000) ∈ BW := iB_BW32 _ (List.mem_of_getElem? (i := 19) rfl)
theorem gX11_knew_3 : (decode cX11_knew 63 = .ok (.iadd, 1)) ∧ (decode cX11_knew 64 = .ok (.ireturn, 1)) := by decide +kernel
theorem gX11_why_0 : (decode cX11_why 0 = .ok (.aload_n 0, 1)) ∧ (decode cX11_why 1 = .ok (.getfield 15, 3)) ∧ (decode cX11_why 4 = .ok (.getfield 107, 3)) ∧ (decode cX11_why 7 = .ok (.iload_n 1, 1)) ∧ (decode cX11_why 8 = .ok (.invokevirtual 124, 3)) ∧ (decode cX11_why 11 = .ok (.ifCond .eq 10, 3)) ∧ (decode cX11_why 14 = .ok (.iload_n 2, 1)) ∧ (decode cX11_why 15 = .ok (.invokestatic 213, 3)) ∧ (decode cX11_why 18 = .ok (.ifCond .ne 5, 3)) ∧ (decode cX11_why 21 = .ok (.iconst (-1), 1)) := by decide +kernel
theorem gX11_why_1 : (decode cX11_why 22 = .ok (.ireturn, 1)) ∧ (decode cX11_why 23 = .ok (.aload_n 0, 1)) ∧ (decode cX11_why 24 = .ok (.getfield 15, 3)) ∧ (decode cX11_why 27 = .ok (.invokevirtual 97, 3)) ∧ (decode cX11_why 30 = .ok (.istore_n 3, 1)) ∧ (decode cX11_why 31 = .ok (.aload_n 0, 1)) ∧ (decode cX11_why 32 = .ok (.getfield 28, 3)) ∧ (decode cX11_why 35 = .ok (.iload_n 3, 1)) ∧ (decode cX11_why 36 = .ok (.invokevirtual 183, 3)) ∧ (decode cX11_why 39 = .ok (.aload_n 0, 1)) := by decide +kernel
theorem gX11_why_2 : (decode cX11_why 40 = .ok (.getfield 44, 3)) ∧ (decode cX11_why 43 = .ok (.iload_n 1, 1)) ∧ (decode cX11_why 44 = .ok (.iload_n 3, 1)) ∧ (decode cX11_why 45 = .ok (.invokevirtual 243, 3)) ∧ (decode cX11_why 48 = .ok (.aload_n 0, 1)) ∧ (decode cX11_why 49 = .ok (.getfield 44, 3)) ∧ (decode cX11_why 52 = .ok (.iload_n 2, 1)) ∧ (decode cX11_why 53 = .ok (.invokevirtual 247, 3)) ∧ (decode cX11_why 56 = .ok (.istore 4, 2)) ∧ (decode cX11_why 58 = .ok (.iload 4, 2)) := by decide +kernel
theorem gX11_why_3 : (decode cX11_why 60 = .ok (.ldc 223, 2)) ∧ (decode cX11_why 62 = .ok (.if_icmp .eq 18, 3)) ∧ (decode cX11_why 65 = .ok (.iload 4, 2)) ∧ (decode cX11_why 67 = .ok (.aload_n 0, 1)) ∧ (decode cX11_why 68 = .ok (.getfield 28, 3)) ∧ (decode cX11_why 71 = .ok (.iload_n 1, 1)) ∧ (decode cX11_why 72 = .ok (.iload_n 2, 1)) ∧ (decode cX11_why 73 = .ok (.iconst 1, 1)) ∧ (decode cX11_why 74 = .ok (.invokevirtual 250, 3)) ∧ (decode cX11_why 77 = .ok (.if_icmp .ne 6, 3)) := by decide +kernel
theorem gX11_why_4 : (decode cX11_why 80 = .ok (.bipush (-3), 2)) ∧ (decode cX11_why 82 = .ok (.ireturn, 1)) ∧ (decode cX11_why 83 = .ok (.aload_n 0, 1)) ∧ (decode cX11_why 84 = .ok (.getfield 44, 3)) ∧ (decode cX11_why 87 = .ok (.iload_n 2, 1)) ∧ (decode cX11_why 88 = .ok (.invokevirtual 253, 3)) ∧ (decode cX11_why 91 = .ok (.ireturn, 1)) := by decide +kernel
theorem m_750 : Cond.code yX6_firstLineFor cX6_firstLineFor 3 (some .int) ∈ BW := iB_BW40 _ (List.mem_of_getElem? (i := 10) rfl)
theorem m_747 : Cond.methodLink RX11 253 yX6_firstLineFor ∈ BW := iB_BW40 _ (List.mem_of_getElem? (i := 7) rfl)
theorem m_748 : Cond.instanceMethod yX6_firstLineFor ∈ BW := iB_BW40 _ (List.mem_of_getElem? (i := 8) rfl)
theorem m_749 : Cond.selects RX6 yX6_firstLineFor yX6_firstLineFor ∈ BW := iB_BW40 _ (List.mem_of_getElem? (i := 9) rfl)
theorem si_X11_253 : SV RX11 RX6 253 yX6_firstLineFor cX6_firstLineFor 3 (some .int) 1 := ⟨⟨m_747, m_748, m_749, m_109, m_750⟩, rfl, nK_RX6.1, nK_RX6.2, pd_7⟩
theorem gX11_stands_0 : (decode cX11_stands 0 = .ok (.aload_n 0, 1)) ∧ (decode cX11_stands 1 = .ok (.getfield 15, 3)) ∧ (decode cX11_stands 4 = .ok (.getfield 271, 3)) ∧ (decode cX11_stands 7 = .ok (.iload_n 1, 1)) ∧ (decode cX11_stands 8 = .ok (.iconst 0, 1)) ∧ (decode cX11_stands 9 = .ok (.invokevirtual 128, 3)) ∧ (decode cX11_stands 12 = .ok (.istore_n 3, 1)) ∧ (decode cX11_stands 13 = .ok (.aload_n 0, 1)) ∧ (decode cX11_stands 14 = .ok (.getfield 15, 3)) ∧ (decode cX11_stands 17 = .ok (.getfield 271, 3)) := by decide +kernel
theorem gX11_stands_1 : (decode cX11_stands 20 = .ok (.iload_n 1, 1)) ∧ (decode cX11_stands 21 = .ok (.iconst 1, 1)) ∧ (decode cX11_stands 22 = .ok (.invokevirtual 128, 3)) ∧ (decode cX11_stands 25 = .ok (.istore 4, 2)) ∧ (decode cX11_stands 27 = .ok (.aload_n 0, 1)) ∧ (decode cX11_stands 28 = .ok (.getfield 15, 3)) ∧ (decode cX11_stands 31 = .ok (.getfield 271, 3)) ∧ (decode cX11_stands 34 = .ok (.iload_n 1, 1)) ∧ (decode cX11_stands 35 = .ok (.iconst 3, 1)) ∧ (decode cX11_stands 36 = .ok (.invokevirtual 128, 3)) := by decide +kernel
theorem gX11_stands_2 : (decode cX11_stands 39 = .ok (.istore 5, 2)) ∧ (decode cX11_stands 41 = .ok (.aload_n 0, 1)) ∧ (decode cX11_stands 42 = .ok (.getfield 15, 3)) ∧ (decode cX11_stands 45 = .ok (.getfield 271, 3)) ∧ (decode cX11_stands 48 = .ok (.iload_n 1, 1)) ∧ (decode cX11_stands 49 = .ok (.iconst 2, 1)) ∧ (decode cX11_stands 50 = .ok (.invokevirtual 128, 3)) ∧ (decode cX11_stands 53 = .ok (.aload_n 0, 1)) ∧ (decode cX11_stands 54 = .ok (.iload_n 3, 1)) ∧ (decode cX11_stands 55 = .ok (.iload 4, 2)) := by decide +kernel
theorem gX11_stands_3 : (decode cX11_stands 57 = .ok (.iload 5, 2)) ∧ (decode cX11_stands 59 = .ok (.iload_n 2, 1)) ∧ (decode cX11_stands 60 = .ok (.invokevirtual 219, 3)) ∧ (decode cX11_stands 63 = .ok (.if_icmp .lt 7, 3)) ∧ (decode cX11_stands 66 = .ok (.iconst 1, 1)) ∧ (decode cX11_stands 67 = .ok (.goto 4, 3)) ∧ (decode cX11_stands 70 = .ok (.iconst 0, 1)) ∧ (decode cX11_stands 71 = .ok (.ireturn, 1)) := by decide +kernel
theorem gX11_leansOn_0 : (decode cX11_leansOn 0 = .ok (.aload_n 0, 1)) ∧ (decode cX11_leansOn 1 = .ok (.iload_n 1, 1)) ∧ (decode cX11_leansOn 2 = .ok (.iload_n 2, 1)) ∧ (decode cX11_leansOn 3 = .ok (.invokevirtual 274, 3)) ∧ (decode cX11_leansOn 6 = .ok (.ifCond .ne 5, 3)) ∧ (decode cX11_leansOn 9 = .ok (.iconst 0, 1)) ∧ (decode cX11_leansOn 10 = .ok (.ireturn, 1)) ∧ (decode cX11_leansOn 11 = .ok (.iconst 0, 1)) ∧ (decode cX11_leansOn 12 = .ok (.istore_n 3, 1)) ∧ (decode cX11_leansOn 13 = .ok (.iconst 0, 1)) := by decide +kernel
theorem m_803 : Cond.code yX11_stands cX11_stands 6 (some .boolean) ∈ BW := iB_BW43 _ (List.mem_of_getElem? (i := 12) rfl)
theorem m_801 : Cond.methodLink RX11 274 yX11_stands ∈ BW := iB_BW43 _ (List.mem_of_getElem? (i := 10) rfl)
theorem m_802 : Cond.instanceMethod yX11_stands ∈ BW := iB_BW43 _ (List.mem_of_getElem? (i := 11) rfl)
theorem m_35 : Cond.selects RX11 yX11_stands yX11_stands ∈ BW := iB_BW1 _ (List.mem_of_getElem? (i := 15) rfl)
theorem si_X11_274 : SV RX11 RX11 274 yX11_stands cX11_stands 6 (some .boolean) 2 := ⟨⟨m_801, m_802, m_35, m_102, m_803⟩, rfl, nK_RX11.1, nK_RX11.2, pd_3⟩
theorem gX11_leansOn_1 : (decode cX11_leansOn 14 = .ok (.istore 4, 2)) ∧ (decode cX11_leansOn 16 = .ok (.iload 4, 2)) ∧ (decode cX11_leansOn 18 = .ok (.aload_n 0, 1)) ∧ (decode cX11_leansOn 19 = .ok (.getfield 15, 3)) ∧ (decode cX11_leansOn 22 = .ok (.getfield 144, 3)) ∧ (decode cX11_leansOn 25 = .ok (.invokevirtual 174, 3)) ∧ (decode cX11_leansOn 28 = .ok (.if_icmp .ge 41, 3)) ∧ (decode cX11_leansOn 31 = .ok (.iload_n 2, 1)) ∧ (decode cX11_leansOn 32 = .ok (.iload 4, 2)) ∧ (decode cX11_leansOn 34 = .ok (.invokestatic 150, 3)) := by decide +kernel
theorem m_424 : Cond.methodLink RX11 174 yX8_count ∈ BW := iB_BW23 _ (List.mem_of_getElem? (i := 8) rfl)
theorem si_X11_174 : SV RX11 RX8 174 yX8_count cX8_count 1 (some .int) 0 := ⟨⟨m_424, m_308, m_309, m_104, m_310⟩, rfl, nK_RX8.1, nK_RX8.2, pd_1⟩
theorem gX11_leansOn_4 : (decode cX11_leansOn 69 = .ok (.iload_n 3, 1)) ∧ (decode cX11_leansOn 70 = .ok (.ireturn, 1)) := by decide +kernel
theorem gX11_leansOn_2 : (decode cX11_leansOn 37 = .ok (.ifCond .eq 26, 3)) ∧ (decode cX11_leansOn 40 = .ok (.aload_n 0, 1)) ∧ (decode cX11_leansOn 41 = .ok (.iload_n 1, 1)) ∧ (decode cX11_leansOn 42 = .ok (.iload_n 2, 1)) ∧ (decode cX11_leansOn 43 = .ok (.iconst 1, 1)) ∧ (decode cX11_leansOn 44 = .ok (.iload 4, 2)) ∧ (decode cX11_leansOn 46 = .ok (.ishl, 1)) ∧ (decode cX11_leansOn 47 = .ok (.iconst (-1), 1)) ∧ (decode cX11_leansOn 48 = .ok (.ixor, 1)) ∧ (decode cX11_leansOn 49 = .ok (.iand, 1)) := by decide +kernel
theorem gX11_leansOn_3 : (decode cX11_leansOn 50 = .ok (.invokevirtual 274, 3)) ∧ (decode cX11_leansOn 53 = .ok (.ifCond .ne 10, 3)) ∧ (decode cX11_leansOn 56 = .ok (.iload_n 3, 1)) ∧ (decode cX11_leansOn 57 = .ok (.iconst 1, 1)) ∧ (decode cX11_leansOn 58 = .ok (.iload 4, 2)) ∧ (decode cX11_leansOn 60 = .ok (.ishl, 1)) ∧ (decode cX11_leansOn 61 = .ok (.ior, 1)) ∧ (decode cX11_leansOn 62 = .ok (.istore_n 3, 1)) ∧ (decode cX11_leansOn 63 = .ok (.iinc 4 1, 3)) ∧ (decode cX11_leansOn 66 = .ok (.goto (-50), 3)) := by decide +kernel
theorem gX11_countStanding_0 : (decode cX11_countStanding 0 = .ok (.iconst 0, 1)) ∧ (decode cX11_countStanding 1 = .ok (.istore_n 2, 1)) ∧ (decode cX11_countStanding 2 = .ok (.iconst 0, 1)) ∧ (decode cX11_countStanding 3 = .ok (.istore_n 3, 1)) ∧ (decode cX11_countStanding 4 = .ok (.iload_n 3, 1)) ∧ (decode cX11_countStanding 5 = .ok (.aload_n 0, 1)) ∧ (decode cX11_countStanding 6 = .ok (.getfield 15, 3)) ∧ (decode cX11_countStanding 9 = .ok (.getfield 271, 3)) ∧ (decode cX11_countStanding 12 = .ok (.invokevirtual 174, 3)) ∧ (decode cX11_countStanding 15 = .ok (.if_icmp .ge 21, 3)) := by decide +kernel
theorem gX11_countStanding_1 : (decode cX11_countStanding 18 = .ok (.aload_n 0, 1)) ∧ (decode cX11_countStanding 19 = .ok (.iload_n 3, 1)) ∧ (decode cX11_countStanding 20 = .ok (.iload_n 1, 1)) ∧ (decode cX11_countStanding 21 = .ok (.invokevirtual 274, 3)) ∧ (decode cX11_countStanding 24 = .ok (.ifCond .eq 6, 3)) ∧ (decode cX11_countStanding 27 = .ok (.iinc 2 1, 3)) ∧ (decode cX11_countStanding 30 = .ok (.iinc 3 1, 3)) ∧ (decode cX11_countStanding 33 = .ok (.goto (-29), 3)) ∧ (decode cX11_countStanding 36 = .ok (.iload_n 2, 1)) ∧ (decode cX11_countStanding 37 = .ok (.ireturn, 1)) := by decide +kernel
theorem gX11_isBarred_0 : (decode cX11_isBarred 0 = .ok (.aload_n 0, 1)) ∧ (decode cX11_isBarred 1 = .ok (.getfield 15, 3)) ∧ (decode cX11_isBarred 4 = .ok (.getfield 271, 3)) ∧ (decode cX11_isBarred 7 = .ok (.iload_n 1, 1)) ∧ (decode cX11_isBarred 8 = .ok (.iconst 0, 1)) ∧ (decode cX11_isBarred 9 = .ok (.invokevirtual 128, 3)) ∧ (decode cX11_isBarred 12 = .ok (.istore 4, 2)) ∧ (decode cX11_isBarred 14 = .ok (.aload_n 0, 1)) ∧ (decode cX11_isBarred 15 = .ok (.getfield 44, 3)) ∧ (decode cX11_isBarred 18 = .ok (.iload 4, 2)) := by decide +kernel
theorem gX11_isBarred_1 : (decode cX11_isBarred 20 = .ok (.iload_n 2, 1)) ∧ (decode cX11_isBarred 21 = .ok (.invokevirtual 364, 3)) ∧ (decode cX11_isBarred 24 = .ok (.aload_n 0, 1)) ∧ (decode cX11_isBarred 25 = .ok (.getfield 15, 3)) ∧ (decode cX11_isBarred 28 = .ok (.iload 4, 2)) ∧ (decode cX11_isBarred 30 = .ok (.iload_n 2, 1)) ∧ (decode cX11_isBarred 31 = .ok (.invokevirtual 138, 3)) ∧ (decode cX11_isBarred 34 = .ok (.aload_n 0, 1)) ∧ (decode cX11_isBarred 35 = .ok (.getfield 44, 3)) ∧ (decode cX11_isBarred 38 = .ok (.invokevirtual 367, 3)) := by decide +kernel
theorem m_810 : Cond.methodLink RX11 364 yX6_consider ∈ BW := iB_BW43 _ (List.mem_of_getElem? (i := 19) rfl)
theorem si_X11_364 : SV RX11 RX6 364 yX6_consider cX6_consider 5 none 2 := ⟨⟨m_810, m_567, m_568, m_109, m_569⟩, rfl, nK_RX6.1, nK_RX6.2, pd_14⟩
theorem m_814 : Cond.code yX6_leastHeard cX6_leastHeard 3 (some .int) ∈ BW := iB_BW44 _ (List.mem_of_getElem? (i := 3) rfl)
theorem m_811 : Cond.methodLink RX11 367 yX6_leastHeard ∈ BW := iB_BW44 _ (List.mem_of_getElem? (i := 0) rfl)
theorem m_812 : Cond.instanceMethod yX6_leastHeard ∈ BW := iB_BW44 _ (List.mem_of_getElem? (i := 1) rfl)
theorem m_813 : Cond.selects RX6 yX6_leastHeard yX6_leastHeard ∈ BW := iB_BW44 _ (List.mem_of_getElem? (i := 2) rfl)
theorem si_X11_367 : SV RX11 RX6 367 yX6_leastHeard cX6_leastHeard 3 (some .int) 0 := ⟨⟨m_811, m_812, m_813, m_109, m_814⟩, rfl, nK_RX6.1, nK_RX6.2, pd_1⟩
theorem gX11_isBarred_2 : (decode cX11_isBarred 41 = .ok (.if_icmp .ge 5, 3)) ∧ (decode cX11_isBarred 44 = .ok (.iconst 1, 1)) ∧ (decode cX11_isBarred 45 = .ok (.ireturn, 1)) ∧ (decode cX11_isBarred 46 = .ok (.aload_n 0, 1)) ∧ (decode cX11_isBarred 47 = .ok (.getfield 15, 3)) ∧ (decode cX11_isBarred 50 = .ok (.invokevirtual 370, 3)) ∧ (decode cX11_isBarred 53 = .ok (.aload_n 0, 1)) ∧ (decode cX11_isBarred 54 = .ok (.getfield 44, 3)) ∧ (decode cX11_isBarred 57 = .ok (.invokevirtual 373, 3)) ∧ (decode cX11_isBarred 60 = .ok (.isub, 1)) := by decide +kernel
theorem m_815 : Cond.methodLink RX11 370 yX0_viewedDay ∈ BW := iB_BW44 _ (List.mem_of_getElem? (i := 4) rfl)
theorem si_X11_370 : SV RX11 RX0 370 yX0_viewedDay cX0_viewedDay 1 (some .int) 0 := ⟨⟨m_815, m_304, m_305, m_103, m_306⟩, rfl, nK_RX0.1, nK_RX0.2, pd_1⟩
theorem m_819 : Cond.code yX6_warnDays cX6_warnDays 3 (some .int) ∈ BW := iB_BW44 _ (List.mem_of_getElem? (i := 8) rfl)
theorem m_816 : Cond.methodLink RX11 373 yX6_warnDays ∈ BW := iB_BW44 _ (List.mem_of_getElem? (i := 5) rfl)
theorem m_817 : Cond.instanceMethod yX6_warnDays ∈ BW := iB_BW44 _ (List.mem_of_getElem? (i := 6) rfl)
theorem m_818 : Cond.selects RX6 yX6_warnDays yX6_warnDays ∈ BW := iB_BW44 _ (List.mem_of_getElem? (i := 7) rfl)
theorem si_X11_373 : SV RX11 RX6 373 yX6_warnDays cX6_warnDays 3 (some .int) 0 := ⟨⟨m_816, m_817, m_818, m_109, m_819⟩, rfl, nK_RX6.1, nK_RX6.2, pd_1⟩
theorem gX11_isBarred_3 : (decode cX11_isBarred 61 = .ok (.istore 5, 2)) ∧ (decode cX11_isBarred 63 = .ok (.iconst 0, 1)) ∧ (decode cX11_isBarred 64 = .ok (.istore 6, 2)) ∧ (decode cX11_isBarred 66 = .ok (.iload 6, 2)) ∧ (decode cX11_isBarred 68 = .ok (.aload_n 0, 1)) ∧ (decode cX11_isBarred 69 = .ok (.getfield 15, 3)) ∧ (decode cX11_isBarred 72 = .ok (.getfield 144, 3)) ∧ (decode cX11_isBarred 75 = .ok (.invokevirtual 174, 3)) ∧ (decode cX11_isBarred 78 = .ok (.if_icmp .ge 36, 3)) ∧ (decode cX11_isBarred 81 = .ok (.iload_n 3, 1)) := by decide +kernel
theorem gX11_isBarred_5 : (decode cX11_isBarred 106 = .ok (.iconst 1, 1)) ∧ (decode cX11_isBarred 107 = .ok (.ireturn, 1)) ∧ (decode cX11_isBarred 108 = .ok (.iinc 6 1, 3)) ∧ (decode cX11_isBarred 111 = .ok (.goto (-45), 3)) ∧ (decode cX11_isBarred 114 = .ok (.iconst 0, 1)) ∧ (decode cX11_isBarred 115 = .ok (.ireturn, 1)) := by decide +kernel
theorem gX11_isBarred_4 : (decode cX11_isBarred 82 = .ok (.iload 6, 2)) ∧ (decode cX11_isBarred 84 = .ok (.invokestatic 150, 3)) ∧ (decode cX11_isBarred 87 = .ok (.ifCond .eq 21, 3)) ∧ (decode cX11_isBarred 90 = .ok (.aload_n 0, 1)) ∧ (decode cX11_isBarred 91 = .ok (.getfield 15, 3)) ∧ (decode cX11_isBarred 94 = .ok (.iload 4, 2)) ∧ (decode cX11_isBarred 96 = .ok (.iload 6, 2)) ∧ (decode cX11_isBarred 98 = .ok (.iload 5, 2)) ∧ (decode cX11_isBarred 100 = .ok (.invokevirtual 376, 3)) ∧ (decode cX11_isBarred 103 = .ok (.ifCond .ne 5, 3)) := by decide +kernel
theorem m_823 : Cond.code yX0_isWarned cX0_isWarned 5 (some .boolean) ∈ BW := iB_BW44 _ (List.mem_of_getElem? (i := 12) rfl)
theorem m_820 : Cond.methodLink RX11 376 yX0_isWarned ∈ BW := iB_BW44 _ (List.mem_of_getElem? (i := 9) rfl)
theorem m_821 : Cond.instanceMethod yX0_isWarned ∈ BW := iB_BW44 _ (List.mem_of_getElem? (i := 10) rfl)
theorem m_822 : Cond.selects RX0 yX0_isWarned yX0_isWarned ∈ BW := iB_BW44 _ (List.mem_of_getElem? (i := 11) rfl)
theorem si_X11_376 : SV RX11 RX0 376 yX0_isWarned cX0_isWarned 5 (some .boolean) 3 := ⟨⟨m_820, m_821, m_822, m_103, m_823⟩, rfl, nK_RX0.1, nK_RX0.2, pd_0⟩
theorem gX11_findingOf_0 : (decode cX11_findingOf 0 = .ok (.aload_n 0, 1)) ∧ (decode cX11_findingOf 1 = .ok (.getfield 15, 3)) ∧ (decode cX11_findingOf 4 = .ok (.getfield 271, 3)) ∧ (decode cX11_findingOf 7 = .ok (.iload_n 1, 1)) ∧ (decode cX11_findingOf 8 = .ok (.invokevirtual 124, 3)) ∧ (decode cX11_findingOf 11 = .ok (.ifCond .ne 5, 3)) ∧ (decode cX11_findingOf 14 = .ok (.iconst (-1), 1)) ∧ (decode cX11_findingOf 15 = .ok (.ireturn, 1)) ∧ (decode cX11_findingOf 16 = .ok (.aload_n 0, 1)) ∧ (decode cX11_findingOf 17 = .ok (.getfield 15, 3)) := by decide +kernel
theorem gX11_findingOf_1 : (decode cX11_findingOf 20 = .ok (.invokevirtual 97, 3)) ∧ (decode cX11_findingOf 23 = .ok (.istore_n 3, 1)) ∧ (decode cX11_findingOf 24 = .ok (.iload_n 2, 1)) ∧ (decode cX11_findingOf 25 = .ok (.tableswitch 138 0 6 #[43, 56, 69, 82, 95, 110, 117], 43)) ∧ (decode cX11_findingOf 68 = .ok (.aload_n 0, 1)) ∧ (decode cX11_findingOf 69 = .ok (.getfield 15, 3)) ∧ (decode cX11_findingOf 72 = .ok (.getfield 271, 3)) ∧ (decode cX11_findingOf 75 = .ok (.iload_n 1, 1)) ∧ (decode cX11_findingOf 76 = .ok (.iconst 0, 1)) ∧ (decode cX11_findingOf 77 = .ok (.invokevirtual 128, 3)) := by decide +kernel
theorem gX11_findingOf_2 : (decode cX11_findingOf 80 = .ok (.ireturn, 1)) ∧ (decode cX11_findingOf 81 = .ok (.aload_n 0, 1)) ∧ (decode cX11_findingOf 82 = .ok (.getfield 15, 3)) ∧ (decode cX11_findingOf 85 = .ok (.getfield 271, 3)) ∧ (decode cX11_findingOf 88 = .ok (.iload_n 1, 1)) ∧ (decode cX11_findingOf 89 = .ok (.iconst 1, 1)) ∧ (decode cX11_findingOf 90 = .ok (.invokevirtual 128, 3)) ∧ (decode cX11_findingOf 93 = .ok (.ireturn, 1)) ∧ (decode cX11_findingOf 94 = .ok (.aload_n 0, 1)) ∧ (decode cX11_findingOf 95 = .ok (.getfield 15, 3)) := by decide +kernel
theorem gX11_findingOf_3 : (decode cX11_findingOf 98 = .ok (.getfield 271, 3)) ∧ (decode cX11_findingOf 101 = .ok (.iload_n 1, 1)) ∧ (decode cX11_findingOf 102 = .ok (.iconst 2, 1)) ∧ (decode cX11_findingOf 103 = .ok (.invokevirtual 128, 3)) ∧ (decode cX11_findingOf 106 = .ok (.ireturn, 1)) ∧ (decode cX11_findingOf 107 = .ok (.aload_n 0, 1)) ∧ (decode cX11_findingOf 108 = .ok (.getfield 15, 3)) ∧ (decode cX11_findingOf 111 = .ok (.getfield 271, 3)) ∧ (decode cX11_findingOf 114 = .ok (.iload_n 1, 1)) ∧ (decode cX11_findingOf 115 = .ok (.iconst 3, 1)) := by decide +kernel
theorem gX11_findingOf_4 : (decode cX11_findingOf 116 = .ok (.invokevirtual 128, 3)) ∧ (decode cX11_findingOf 119 = .ok (.ireturn, 1)) ∧ (decode cX11_findingOf 120 = .ok (.aload_n 0, 1)) ∧ (decode cX11_findingOf 121 = .ok (.iload_n 1, 1)) ∧ (decode cX11_findingOf 122 = .ok (.iload_n 3, 1)) ∧ (decode cX11_findingOf 123 = .ok (.invokevirtual 274, 3)) ∧ (decode cX11_findingOf 126 = .ok (.ifCond .eq 7, 3)) ∧ (decode cX11_findingOf 129 = .ok (.iconst 1, 1)) ∧ (decode cX11_findingOf 130 = .ok (.goto 4, 3)) ∧ (decode cX11_findingOf 133 = .ok (.iconst 0, 1)) := by decide +kernel
theorem gX11_findingOf_5 : (decode cX11_findingOf 134 = .ok (.ireturn, 1)) ∧ (decode cX11_findingOf 135 = .ok (.aload_n 0, 1)) ∧ (decode cX11_findingOf 136 = .ok (.iload_n 1, 1)) ∧ (decode cX11_findingOf 137 = .ok (.iload_n 3, 1)) ∧ (decode cX11_findingOf 138 = .ok (.invokevirtual 277, 3)) ∧ (decode cX11_findingOf 141 = .ok (.ireturn, 1)) ∧ (decode cX11_findingOf 142 = .ok (.aload_n 0, 1)) ∧ (decode cX11_findingOf 143 = .ok (.iload_n 1, 1)) ∧ (decode cX11_findingOf 144 = .ok (.iload_n 3, 1)) ∧ (decode cX11_findingOf 145 = .ok (.aload_n 0, 1)) := by decide +kernel
theorem m_806 : Cond.code yX11_leansOn cX11_leansOn 5 (some .int) ∈ BW := iB_BW43 _ (List.mem_of_getElem? (i := 15) rfl)
theorem m_804 : Cond.methodLink RX11 277 yX11_leansOn ∈ BW := iB_BW43 _ (List.mem_of_getElem? (i := 13) rfl)
theorem m_805 : Cond.instanceMethod yX11_leansOn ∈ BW := iB_BW43 _ (List.mem_of_getElem? (i := 14) rfl)
theorem m_36 : Cond.selects RX11 yX11_leansOn yX11_leansOn ∈ BW := iB_BW1 _ (List.mem_of_getElem? (i := 16) rfl)
theorem si_X11_277 : SV RX11 RX11 277 yX11_leansOn cX11_leansOn 5 (some .int) 2 := ⟨⟨m_804, m_805, m_36, m_102, m_806⟩, rfl, nK_RX11.1, nK_RX11.2, pd_2⟩
theorem gX11_findingOf_6 : (decode cX11_findingOf 146 = .ok (.iload_n 1, 1)) ∧ (decode cX11_findingOf 147 = .ok (.iload_n 3, 1)) ∧ (decode cX11_findingOf 148 = .ok (.invokevirtual 277, 3)) ∧ (decode cX11_findingOf 151 = .ok (.invokevirtual 280, 3)) ∧ (decode cX11_findingOf 154 = .ok (.ifCond .eq 7, 3)) ∧ (decode cX11_findingOf 157 = .ok (.iconst 1, 1)) ∧ (decode cX11_findingOf 158 = .ok (.goto 4, 3)) ∧ (decode cX11_findingOf 161 = .ok (.iconst 0, 1)) ∧ (decode cX11_findingOf 162 = .ok (.ireturn, 1)) ∧ (decode cX11_findingOf 163 = .ok (.iconst (-1), 1)) := by decide +kernel
theorem m_809 : Cond.code yX11_isBarred cX11_isBarred 7 (some .boolean) ∈ BW := iB_BW43 _ (List.mem_of_getElem? (i := 18) rfl)
theorem m_807 : Cond.methodLink RX11 280 yX11_isBarred ∈ BW := iB_BW43 _ (List.mem_of_getElem? (i := 16) rfl)
theorem m_808 : Cond.instanceMethod yX11_isBarred ∈ BW := iB_BW43 _ (List.mem_of_getElem? (i := 17) rfl)
theorem m_37 : Cond.selects RX11 yX11_isBarred yX11_isBarred ∈ BW := iB_BW1 _ (List.mem_of_getElem? (i := 17) rfl)
theorem si_X11_280 : SV RX11 RX11 280 yX11_isBarred cX11_isBarred 7 (some .boolean) 3 := ⟨⟨m_807, m_808, m_37, m_102, m_809⟩, rfl, nK_RX11.1, nK_RX11.2, pd_0⟩
theorem gX11_findingOf_7 : (decode cX11_findingOf 164 = .ok (.ireturn, 1)) := by decide +kernel
theorem gX9_leastWeight_0 : (decode cX9_leastWeight 0 = .ok (.aload_n 0, 1)) ∧ (decode cX9_leastWeight 1 = .ok (.getfield 26, 3)) ∧ (decode cX9_leastWeight 4 = .ok (.ireturn, 1)) := by decide +kernel
theorem gX9_believedHour_0 : (decode cX9_believedHour 0 = .ok (.aload_n 0, 1)) ∧ (decode cX9_believedHour 1 = .ok (.getfield 29, 3)) ∧ (decode cX9_believedHour 4 = .ok (.ireturn, 1)) := by decide +kernel
theorem gX11_quarrel_0 : (decode cX11_quarrel 0 = .ok (.aload_n 0, 1)) ∧ (decode cX11_quarrel 1 = .ok (.getfield 15, 3)) ∧ (decode cX11_quarrel 4 = .ok (.getfield 107, 3)) ∧ (decode cX11_quarrel 7 = .ok (.iload_n 1, 1)) ∧ (decode cX11_quarrel 8 = .ok (.invokevirtual 124, 3)) ∧ (decode cX11_quarrel 11 = .ok (.ifCond .eq 26, 3)) ∧ (decode cX11_quarrel 14 = .ok (.aload_n 0, 1)) ∧ (decode cX11_quarrel 15 = .ok (.getfield 15, 3)) ∧ (decode cX11_quarrel 18 = .ok (.getfield 144, 3)) ∧ (decode cX11_quarrel 21 = .ok (.iload_n 2, 1)) := by decide +kernel
theorem gX11_quarrel_1 : (decode cX11_quarrel 22 = .ok (.invokevirtual 124, 3)) ∧ (decode cX11_quarrel 25 = .ok (.ifCond .eq 12, 3)) ∧ (decode cX11_quarrel 28 = .ok (.iload_n 3, 1)) ∧ (decode cX11_quarrel 29 = .ok (.iconst 0, 1)) ∧ (decode cX11_quarrel 30 = .ok (.iconst 1, 1)) ∧ (decode cX11_quarrel 31 = .ok (.invokestatic 83, 3)) ∧ (decode cX11_quarrel 34 = .ok (.ifCond .ne 5, 3)) ∧ (decode cX11_quarrel 37 = .ok (.iconst (-1), 1)) ∧ (decode cX11_quarrel 38 = .ok (.ireturn, 1)) ∧ (decode cX11_quarrel 39 = .ok (.aload_n 0, 1)) := by decide +kernel
theorem gX11_quarrel_2 : (decode cX11_quarrel 40 = .ok (.getfield 15, 3)) ∧ (decode cX11_quarrel 43 = .ok (.invokevirtual 97, 3)) ∧ (decode cX11_quarrel 46 = .ok (.istore 4, 2)) ∧ (decode cX11_quarrel 48 = .ok (.iload 4, 2)) ∧ (decode cX11_quarrel 50 = .ok (.iload_n 2, 1)) ∧ (decode cX11_quarrel 51 = .ok (.invokestatic 150, 3)) ∧ (decode cX11_quarrel 54 = .ok (.ifCond .ne 6, 3)) ∧ (decode cX11_quarrel 57 = .ok (.bipush (-3), 2)) ∧ (decode cX11_quarrel 59 = .ok (.ireturn, 1)) ∧ (decode cX11_quarrel 60 = .ok (.aload_n 0, 1)) := by decide +kernel
theorem gX11_quarrel_3 : (decode cX11_quarrel 61 = .ok (.getfield 28, 3)) ∧ (decode cX11_quarrel 64 = .ok (.iload 4, 2)) ∧ (decode cX11_quarrel 66 = .ok (.invokevirtual 183, 3)) ∧ (decode cX11_quarrel 69 = .ok (.aload_n 0, 1)) ∧ (decode cX11_quarrel 70 = .ok (.getfield 51, 3)) ∧ (decode cX11_quarrel 73 = .ok (.iload_n 1, 1)) ∧ (decode cX11_quarrel 74 = .ok (.iload_n 2, 1)) ∧ (decode cX11_quarrel 75 = .ok (.iload 4, 2)) ∧ (decode cX11_quarrel 77 = .ok (.invokevirtual 259, 3)) ∧ (decode cX11_quarrel 80 = .ok (.iload_n 3, 1)) := by decide +kernel
theorem m_283 : Cond.fieldLink RX11 51 "InquiryBench" "talk" "LInquiryBench$Talk;" ∈ BW := iB_BW15 _ (List.mem_of_getElem? (i := 9) rfl)
theorem gf_X11_51 (hC : CX p s m meth c y0 b0 mL0 rt0 args) (hy0 : y0.cls = RX11) (hK : KK G s) (hP : va_P G.1 vwCl ws H) (q0 : Nat) {fs : List Value} {v : Value} (he : ws[q0]? = some (a, .inr (11, fs))) (hv : fs[6]? = some v) (hdg : decode b0 pc = .ok (.getfield 51, 3)) (kk : W p l e R s m args below meth c H locs cells slots Q (F0 m (pc + 3) ls (v :: rest))) : W p l e R s m args below meth c H locs cells slots Q (F0 m pc ls (.ref a :: rest)) := by
  obtain ⟨hx, hb, hr, hml, hB, hown, hlocks, hnm⟩ := hC
  rw [hy0] at hown
  exact va_get (ci := 11) (C := RX11) (T := TX11) (N := 11) hx hb hB in_X11 hown hK.1 hP q0 he rfl 6 (by decide) (hB _ m_283) (fun _ h => h) hv hdg kk
theorem m_762 : Cond.code yX9_weigh cX9_weigh 7 none ∈ BW := iB_BW41 _ (List.mem_of_getElem? (i := 2) rfl)
theorem m_759 : Cond.methodLink RX11 259 yX9_weigh ∈ BW := iB_BW40 _ (List.mem_of_getElem? (i := 19) rfl)
theorem m_760 : Cond.instanceMethod yX9_weigh ∈ BW := iB_BW41 _ (List.mem_of_getElem? (i := 0) rfl)
theorem m_761 : Cond.selects RX9 yX9_weigh yX9_weigh ∈ BW := iB_BW41 _ (List.mem_of_getElem? (i := 1) rfl)
theorem si_X11_259 : SV RX11 RX9 259 yX9_weigh cX9_weigh 7 none 3 := ⟨⟨m_759, m_760, m_761, m_110, m_762⟩, rfl, nK_RX9.1, nK_RX9.2, pd_4⟩
theorem gX11_quarrel_4 : (decode cX11_quarrel 81 = .ok (.ifCond .ne 13, 3)) ∧ (decode cX11_quarrel 84 = .ok (.aload_n 0, 1)) ∧ (decode cX11_quarrel 85 = .ok (.getfield 51, 3)) ∧ (decode cX11_quarrel 88 = .ok (.invokevirtual 262, 3)) ∧ (decode cX11_quarrel 91 = .ok (.goto 14, 3)) ∧ (decode cX11_quarrel 94 = .ok (.aload_n 0, 1)) ∧ (decode cX11_quarrel 95 = .ok (.getfield 51, 3)) ∧ (decode cX11_quarrel 98 = .ok (.invokevirtual 265, 3)) ∧ (decode cX11_quarrel 101 = .ok (.sipush 1000, 3)) ∧ (decode cX11_quarrel 104 = .ok (.iadd, 1)) := by decide +kernel
theorem m_784 : Cond.code yX9_believedHour cX9_believedHour 1 (some .int) ∈ BW := iB_BW42 _ (List.mem_of_getElem? (i := 13) rfl)
theorem m_781 : Cond.methodLink RX11 265 yX9_believedHour ∈ BW := iB_BW42 _ (List.mem_of_getElem? (i := 10) rfl)
theorem m_782 : Cond.instanceMethod yX9_believedHour ∈ BW := iB_BW42 _ (List.mem_of_getElem? (i := 11) rfl)
theorem m_783 : Cond.selects RX9 yX9_believedHour yX9_believedHour ∈ BW := iB_BW42 _ (List.mem_of_getElem? (i := 12) rfl)
theorem si_X11_265 : SV RX11 RX9 265 yX9_believedHour cX9_believedHour 1 (some .int) 0 := ⟨⟨m_781, m_782, m_783, m_110, m_784⟩, rfl, nK_RX9.1, nK_RX9.2, pd_1⟩
theorem gX11_quarrel_5 : (decode cX11_quarrel 105 = .ok (.ireturn, 1)) := by decide +kernel
theorem m_780 : Cond.code yX9_leastWeight cX9_leastWeight 1 (some .int) ∈ BW := iB_BW42 _ (List.mem_of_getElem? (i := 9) rfl)
theorem m_777 : Cond.methodLink RX11 262 yX9_leastWeight ∈ BW := iB_BW42 _ (List.mem_of_getElem? (i := 6) rfl)
theorem m_778 : Cond.instanceMethod yX9_leastWeight ∈ BW := iB_BW42 _ (List.mem_of_getElem? (i := 7) rfl)
theorem m_779 : Cond.selects RX9 yX9_leastWeight yX9_leastWeight ∈ BW := iB_BW42 _ (List.mem_of_getElem? (i := 8) rfl)
theorem si_X11_262 : SV RX11 RX9 262 yX9_leastWeight cX9_leastWeight 1 (some .int) 0 := ⟨⟨m_777, m_778, m_779, m_110, m_780⟩, rfl, nK_RX9.1, nK_RX9.2, pd_1⟩
theorem gX11_impossible_0 : (decode cX11_impossible 0 = .ok (.aload_n 0, 1)) ∧ (decode cX11_impossible 1 = .ok (.getfield 15, 3)) ∧ (decode cX11_impossible 4 = .ok (.invokevirtual 97, 3)) ∧ (decode cX11_impossible 7 = .ok (.istore_n 1, 1)) ∧ (decode cX11_impossible 8 = .ok (.aload_n 0, 1)) ∧ (decode cX11_impossible 9 = .ok (.getfield 28, 3)) ∧ (decode cX11_impossible 12 = .ok (.iload_n 1, 1)) ∧ (decode cX11_impossible 13 = .ok (.invokevirtual 183, 3)) ∧ (decode cX11_impossible 16 = .ok (.aload_n 0, 1)) ∧ (decode cX11_impossible 17 = .ok (.getfield 51, 3)) := by decide +kernel
theorem gX11_impossible_1 : (decode cX11_impossible 20 = .ok (.iload_n 1, 1)) ∧ (decode cX11_impossible 21 = .ok (.invokevirtual 268, 3)) ∧ (decode cX11_impossible 24 = .ok (.ireturn, 1)) := by decide +kernel
theorem m_792 : Cond.code yX9_impossibleOnes cX9_impossibleOnes 6 (some .int) ∈ BW := iB_BW43 _ (List.mem_of_getElem? (i := 1) rfl)
theorem m_789 : Cond.methodLink RX11 268 yX9_impossibleOnes ∈ BW := iB_BW42 _ (List.mem_of_getElem? (i := 18) rfl)
theorem m_790 : Cond.instanceMethod yX9_impossibleOnes ∈ BW := iB_BW42 _ (List.mem_of_getElem? (i := 19) rfl)
theorem m_791 : Cond.selects RX9 yX9_impossibleOnes yX9_impossibleOnes ∈ BW := iB_BW43 _ (List.mem_of_getElem? (i := 0) rfl)
theorem si_X11_268 : SV RX11 RX9 268 yX9_impossibleOnes cX9_impossibleOnes 6 (some .int) 1 := ⟨⟨m_789, m_790, m_791, m_110, m_792⟩, rfl, nK_RX9.1, nK_RX9.2, pd_7⟩
end WR
theorem TRQ {K : Nat → Nat → Int → Prop} {ft M N : Nat → Int32} {s : Nat} (h1 : CLB K (MAT M)) (h2 : CLB K (MAT N)) (hc : CKS ft s < 6) : TR0 ft M s = TR0 ft N s ∧ TR1 ft M s = TR1 ft N s := by
  have e1 := CLB.eq h1 h2 (a := 0) (b := CKS ft s) (by decide) hc
  have e2 := CLB.eq h1 h2 (a := CKS ft s) (b := 0) hc (by decide)
  unfold TR0 TR1
  rw [e1, e2]
  exact ⟨rfl, rfl⟩
/-- what the sight tells of papers -/
def SGQ (K : Nat → Nat → Int → Prop) (ft : Nat → Int32) (V : Nat → Prop) (k : Nat) (c : Int32) (g a b sl sm : Nat → Int32) : Prop := ∀ p, p < 12 → (¬ (c = 0 ∧ ¬ g p < 0) → NOS K ∨ ¬ V p ∨ ∀ s, s < k → ¬ ft (s * 3 + 0) = nI p) ∧ (c = 0 ∧ ¬ g p < 0 → ∃ M : Nat → Int32, CLB K (MAT M) ∧ V p ∧ (∃ s, FST ft k p s ∧ a p = TR0 ft M s ∧ b p = TR1 ft M s) ∧ ∃ s, LST ft k p s ∧ sl p = TR0 ft M s ∧ sm p = TR1 ft M s)
theorem LKP.sgq {ft : Nat → Int32} {pp gp : Int32} {k : Nat} {c : Int32} {fm f g ml mm sl sm : Nat → Int32} (h : LKP ft pp gp k c fm f g ml mm sl sm) (hk : k < 2 ^ 31) : SGQ (KST ft (VPP pp) gp.toInt k) ft (VPP pp) k c g ml mm sl sm := fun p hp => ⟨fun hn => h.none hp hk hn, fun hn => by
  obtain ⟨h1, h2, h3⟩ := h.fst hp hk hn
  obtain ⟨-, -, h4⟩ := h.some hp hk hn
  exact ⟨fm, h1, h2, h3, h4⟩⟩
/-- a paper in hand from f to t; not in hand -/
def INQ (K : Nat → Nat → Int → Prop) (ft : Nat → Int32) (V : Nat → Prop) (by9 to9 z : Int32) (k p e : Nat) (f t : Int32) : Prop := (∃ (M : Nat → Int32) (s : Nat), CLB K (MAT M) ∧ V p ∧ by9 = nI e ∧ FST ft k p s ∧ f = TR0 ft M s ∧ t = TR1 ft M s) ∨ (∃ (M : Nat → Int32) (s : Nat), CLB K (MAT M) ∧ V p ∧ ¬ by9 = nI e ∧ HB to9 (nI e) ∧ LST ft k p s ∧ f = TR0 ft M s ∧ t = TR1 ft M s + z)
def NIQ (K : Nat → Nat → Int → Prop) (ft : Nat → Int32) (V : Nat → Prop) (by9 to9 : Int32) (k p e : Nat) : Prop := NOS K ∨ ¬ V p ∨ (∀ s, s < k → ¬ ft (s * 3 + 0) = nI p) ∨ (¬ by9 = nI e ∧ ¬ HB to9 (nI e))
theorem INQ.uniq {K : Nat → Nat → Int → Prop} {ft : Nat → Int32} {V : Nat → Prop} {by9 to9 z : Int32} {k p e : Nat} {f t f2 t2 : Int32} (hS : SVL ft k) (h1 : INQ K ft V by9 to9 z k p e f t) (h2 : INQ K ft V by9 to9 z k p e f2 t2) : f = f2 ∧ t = t2 := by
  rcases h1 with ⟨M, s, c, v, b, l, e1, e2⟩ | ⟨M, s, c, v, b, hb, l, e1, e2⟩
  · rcases h2 with ⟨N, s2, c2, v2, b2, l2, d1, d2⟩ | ⟨N, s2, c2, v2, b2, -⟩
    · rw [← l.uniq l2] at d1 d2
      obtain ⟨q1, q2⟩ := TRQ c c2 (hS.ck l.1)
      exact ⟨e1.trans (q1.trans d1.symm), e2.trans (q2.trans d2.symm)⟩
    · exact absurd b b2
  · rcases h2 with ⟨N, s2, c2, v2, b2, l2, d1, d2⟩ | ⟨N, s2, c2, v2, b2, hb2, l2, d1, d2⟩
    · exact absurd b2 b
    · rw [← l.uniq l2] at d1 d2
      obtain ⟨q1, q2⟩ := TRQ c c2 (hS.ck l.1)
      exact ⟨e1.trans (q1.trans d1.symm), by rw [e2, d2, q2]⟩
theorem INQ.no {K : Nat → Nat → Int → Prop} {ft : Nat → Int32} {V : Nat → Prop} {by9 to9 z : Int32} {k p e : Nat} {f t : Int32} (h1 : INQ K ft V by9 to9 z k p e f t) (h2 : NIQ K ft V by9 to9 k p e) : False := by
  rcases h1 with ⟨M, s, c, v, b, l, -⟩ | ⟨M, s, c, v, b, hb, l, -⟩
  · rcases h2 with h2 | h2 | h2 | h2
    · exact c.nos h2
    · exact h2 v
    · exact h2 s l.1 l.2.1
    · exact h2.1 b
  · rcases h2 with h2 | h2 | h2 | h2
    · exact c.nos h2
    · exact h2 v
    · exact h2 s l.1 l.2.1
    · exact h2.2 hb
theorem INQ.cg {K : Nat → Nat → Int → Prop} {ft gt : Nat → Int32} {V U : Nat → Prop} {by9 to9 z : Int32} {k p e : Nat} {f t : Int32} (h : ∀ i, i < 72 → gt i = ft i) (hn : k ≤ 24) (hv : U p ↔ V p) (h1 : INQ K gt U by9 to9 z k p e f t) : INQ K ft V by9 to9 z k p e f t := by
  have tr : ∀ (M : Nat → Int32) s, s < k → TR0 gt M s = TR0 ft M s ∧ TR1 gt M s = TR1 ft M s := fun M s hs => by
    unfold TR0 TR1 CKS
    rw [h (s * 3 + 2) (by omega), h (s * 3 + 1) (by omega)]
    exact ⟨rfl, rfl⟩
  rcases h1 with ⟨M, s, c, v, b, l, e1, e2⟩ | ⟨M, s, c, v, b, hb, l, e1, e2⟩
  · obtain ⟨q1, q2⟩ := tr M s l.1
    exact Or.inl ⟨M, s, c, hv.mp v, b, FST.cg h hn l, e1.trans q1, e2.trans q2⟩
  · obtain ⟨q1, q2⟩ := tr M s l.1
    exact Or.inr ⟨M, s, c, hv.mp v, b, hb, LST.cg h hn l, e1.trans q1, by rw [e2, q2]⟩
theorem NIQ.cg {K : Nat → Nat → Int → Prop} {ft gt : Nat → Int32} {V U : Nat → Prop} {by9 to9 : Int32} {k p e : Nat} (h : ∀ i, i < 72 → gt i = ft i) (hn : k ≤ 24) (hv : U p ↔ V p) (h1 : NIQ K gt U by9 to9 k p e) : NIQ K ft V by9 to9 k p e := by
  rcases h1 with h1 | h1 | h1 | h1
  · exact Or.inl h1
  · exact Or.inr (Or.inl fun h9 => h1 (hv.mpr h9))
  · exact Or.inr (Or.inr (Or.inl fun s hs e => h1 s hs ((h (s * 3 + 0) (by omega)).trans e)))
  · exact Or.inr (Or.inr (Or.inr h1))
/-- the hours from which a paper might have been in hand -/
def HIQ (K : Nat → Nat → Int → Prop) (ft : Nat → Int32) (V : Nat → Prop) (by9 to9 z : Int32) (k p e : Nat) (f t : Int32) : Prop := INQ K ft V by9 to9 z k p e f t ∨ (NIQ K ft V by9 to9 k p e ∧ f = 0 ∧ t = 1000)
theorem HIQ.uniq {K : Nat → Nat → Int → Prop} {ft : Nat → Int32} {V : Nat → Prop} {by9 to9 z : Int32} {k p e : Nat} {f t f2 t2 : Int32} (hS : SVL ft k) (h1 : HIQ K ft V by9 to9 z k p e f t) (h2 : HIQ K ft V by9 to9 z k p e f2 t2) : f = f2 ∧ t = t2 := by
  rcases h1 with h1 | ⟨n1, a1, b1⟩
  · rcases h2 with h2 | ⟨n2, a2, b2⟩
    · exact h1.uniq hS h2
    · exact (h1.no n2).elim
  · rcases h2 with h2 | ⟨n2, a2, b2⟩
    · exact (h2.no n1).elim
    · exact ⟨a1.trans a2.symm, b1.trans b2.symm⟩
theorem HIQ.cg {K : Nat → Nat → Int → Prop} {ft gt : Nat → Int32} {V U : Nat → Prop} {by9 to9 z : Int32} {k p e : Nat} {f t : Int32} (h : ∀ i, i < 72 → gt i = ft i) (hn : k ≤ 24) (hv : U p ↔ V p) (h1 : HIQ K gt U by9 to9 z k p e f t) : HIQ K ft V by9 to9 z k p e f t := by
  rcases h1 with h1 | ⟨n1, a1, b1⟩
  · exact Or.inl (h1.cg h hn hv)
  · exact Or.inr ⟨n1.cg h hn hv, a1, b1⟩
theorem NIQ.of {K : Nat → Nat → Int → Prop} {ft : Nat → Int32} {V : Nat → Prop} {by9 to9 : Int32} {k p e : Nat} {c : Int32} {g a b sl sm : Nat → Int32} (h : SGQ K ft V k c g a b sl sm) (hp : p < 12) (hn : ¬ ((c = 0 ∧ ¬ g p < 0) ∧ (by9 = nI e ∨ HB to9 (nI e)))) : NIQ K ft V by9 to9 k p e := by
  by_cases h1 : c = 0 ∧ ¬ g p < 0
  · exact Or.inr (Or.inr (Or.inr ⟨fun h9 => hn ⟨h1, Or.inl h9⟩, fun h9 => hn ⟨h1, Or.inr h9⟩⟩))
  · rcases (h p hp).1 h1 with h2 | h2 | h2
    · exact Or.inl h2
    · exact Or.inr (Or.inl h2)
    · exact Or.inr (Or.inr (Or.inl h2))
theorem INQ.made {K : Nat → Nat → Int → Prop} {ft : Nat → Int32} {V : Nat → Prop} {by9 to9 z : Int32} {k p e : Nat} {c : Int32} {g a b sl sm : Nat → Int32} (h : SGQ K ft V k c g a b sl sm) (hp : p < 12) (hn : c = 0 ∧ ¬ g p < 0) (hb : by9 = nI e) : INQ K ft V by9 to9 z k p e (a p) (b p) := by
  obtain ⟨M, h1, h2, ⟨s, h3, h4, h5⟩, -⟩ := (h p hp).2 hn
  exact Or.inl ⟨M, s, h1, h2, hb, h3, h4, h5⟩
theorem INQ.sent {K : Nat → Nat → Int → Prop} {ft : Nat → Int32} {V : Nat → Prop} {by9 to9 z : Int32} {k p e : Nat} {c : Int32} {g a b sl sm : Nat → Int32} (h : SGQ K ft V k c g a b sl sm) (hp : p < 12) (hn : c = 0 ∧ ¬ g p < 0) (hb : ¬ by9 = nI e) (ht : HB to9 (nI e)) : INQ K ft V by9 to9 z k p e (sl p) (sm p + z) := by
  obtain ⟨M, h1, h2, -, s, h3, h4, h5⟩ := (h p hp).2 hn
  exact Or.inr ⟨M, s, h1, h2, hb, ht, h3, h4, by rw [h5]⟩
/-- bits of the first n that are so -/
noncomputable def IMB (P : Nat → Prop) : Nat → Int32
  | 0 => 0
  | n + 1 => ifc (P n) (IMB P n ||| 1 <<< (nI n &&& 31)) (IMB P n)
theorem IMB.cg {P Q : Nat → Prop} : ∀ n, (∀ k, k < n → (P k ↔ Q k)) → IMB P n = IMB Q n
  | 0, _ => rfl
  | n + 1, h => by
    show ifc (P n) _ _ = ifc (Q n) _ _
    rw [IMB.cg n (fun k hk => h k (by omega))]
    by_cases c : P n
    · rw [ifc_t c, ifc_t ((h n (by omega)).mp c)]
    · rw [ifc_f c, ifc_f (fun h9 => c ((h n (by omega)).mpr h9))]
theorem IMB.y {P : Nat → Prop} {n : Nat} {b : Int32} (h : b = IMB P n) (p : P n) : b ||| 1 <<< (nI n &&& 31) = IMB P (n + 1) := by
  subst h
  exact (ifc_t p).symm
theorem IMB.n {P : Nat → Prop} {n : Nat} {b : Int32} (h : b = IMB P n) (p : ¬ P n) : b = IMB P (n + 1) := by
  subst h
  exact (ifc_f p).symm
/-- a saying goes against an hour -/
def AGF (fs : Nat → Int32) (h : Int32) (s : Nat) : Prop := (fs (s * 8 + 5) = 1 ∧ fs (s * 8 + 3) < h) ∨ (¬ fs (s * 8 + 5) = 1 ∧ h ≤ fs (s * 8 + 3))
theorem i_le_trans {a b c : Int32} (h1 : a ≤ b) (h2 : b ≤ c) : a ≤ c := by
  rw [Int32.le_iff_toInt_le] at *
  omega
theorem i_lt_le {a b c : Int32} (h1 : a < b) (h2 : b ≤ c) : a < c := by
  rw [Int32.le_iff_toInt_le] at h2
  rw [Int32.lt_iff_toInt_lt] at *
  omega
theorem i_lt_le2 {a b : Int32} (h : a < b) : a ≤ b := by
  rw [Int32.lt_iff_toInt_lt] at h
  rw [Int32.le_iff_toInt_le]
  omega
theorem TR.le {K : Nat → Nat → Int → Prop} {ft M : Nat → Int32} {n s : Nat} (hc : CLB K (MAT M)) (h : SVL ft n) (hs : s < n) : (TR0 ft M s).toInt ≤ (TR1 ft M s).toInt ∧ -200 ≤ (TR0 ft M s).toInt ∧ (TR1 ft M s).toInt ≤ 1119 := by
  have h1 := h.hrs hs
  have h2 := hc.lim 0 (CKS ft s) (by decide) (h.ck hs)
  have h3 := hc.lim (CKS ft s) 0 (h.ck hs) (by decide)
  have h4 := hc.1.2.1 0 (CKS ft s) 0 (by decide) (h.ck hs) (by decide)
  have h5 := hc.1.1 0 (by decide)
  have e0 : (ft (s * 3 + 2)).toInt = HRS ft s := rfl
  have e1 : (M (0 * 6 + CKS ft s)).toInt = MAT M 0 (CKS ft s) := rfl
  have e2 : (M (CKS ft s * 6 + 0)).toInt = MAT M (CKS ft s) 0 := rfl
  have e3 : (TR0 ft M s).toInt = HRS ft s - MAT M 0 (CKS ft s) := by
    unfold TR0
    rw [ti_ad (by omega) (by omega) (by rw [ti_ng (by omega) (by omega)]; omega) (by rw [ti_ng (by omega) (by omega)]; omega), ti_ng (by omega) (by omega), e0, e1]
    omega
  have e4 : (TR1 ft M s).toInt = HRS ft s + MAT M (CKS ft s) 0 := by
    unfold TR1
    rw [ti_ad (by omega) (by omega) (by omega) (by omega), e0, e2]
  omega
theorem HIQ.le {K : Nat → Nat → Int → Prop} {ft : Nat → Int32} {V : Nat → Prop} {by9 to9 z : Int32} {k p e : Nat} {f t : Int32} (hS : SVL ft k) (h0 : 0 ≤ z.toInt) (h48 : z.toInt ≤ 48) (h : HIQ K ft V by9 to9 z k p e f t) : f ≤ t ∧ -200 ≤ f.toInt ∧ t.toInt ≤ 1167 := by
  rw [Int32.le_iff_toInt_le]
  rcases h with (⟨M, s, c, v, b, l, e1, e2⟩ | ⟨M, s, c, v, b, hb, l, e1, e2⟩) | ⟨-, e1, e2⟩
  · have h1 := TR.le c hS l.1
    rw [e1, e2]
    omega
  · have h1 := TR.le c hS l.1
    rw [e1, e2, ti_ad (by omega) (by omega) (by omega) (by omega)]
    omega
  · rw [e1, e2]
    decide
/-- a saying goes against every hour of its paper and person -/
def IMS (fs : Nat → Int32) (Q : Nat → Int32 → Int32 → Prop) (s : Nat) : Prop := ∃ f t, Q s f t ∧ ((fs (s * 8 + 5) = 1 ∧ fs (s * 8 + 3) < f) ∨ (¬ fs (s * 8 + 5) = 1 ∧ t ≤ fs (s * 8 + 3)))
def QSF (K : Nat → Nat → Int → Prop) (ft : Nat → Int32) (V : Nat → Prop) (fp fe fs : Nat → Int32) (k : Nat) : Nat → Int32 → Int32 → Prop := fun s f t => HIQ K ft V (fp ((fs (s * 8 + 2)).toNatClampNeg * 6 + 0)) (fp ((fs (s * 8 + 2)).toNatClampNeg * 6 + 1)) (fe ((fs (s * 8 + 1)).toNatClampNeg * 2 + 1)) k (fs (s * 8 + 2)).toNatClampNeg (fs (s * 8 + 1)).toNatClampNeg f t
theorem QSF.mk {K : Nat → Nat → Int → Prop} {ft : Nat → Int32} {V : Nat → Prop} {fp fe fs : Nat → Int32} {k s p e : Nat} {f t : Int32} (e1 : fs (s * 8 + 2) = nI p) (e2 : fs (s * 8 + 1) = nI e) (hp : p < 2 ^ 31) (he : e < 2 ^ 31) (h : HIQ K ft V (fp (p * 6 + 0)) (fp (p * 6 + 1)) (fe (e * 2 + 1)) k p e f t) : QSF K ft V fp fe fs k s f t := by
  unfold QSF
  rw [e1, e2, nI_clamp hp, nI_clamp he]
  exact h
theorem IMS.no {K : Nat → Nat → Int → Prop} {ft : Nat → Int32} {V : Nat → Prop} {fp fe fs : Nat → Int32} {k s : Nat} {f t : Int32} (hS : SVL ft k) (hq : QSF K ft V fp fe fs k s f t) (hn : ¬ ((fs (s * 8 + 5) = 1 ∧ fs (s * 8 + 3) < f) ∨ (¬ fs (s * 8 + 5) = 1 ∧ t ≤ fs (s * 8 + 3)))) : ¬ IMS fs (QSF K ft V fp fe fs k) s := by
  intro ⟨f2, t2, h2, h3⟩
  obtain ⟨e1, e2⟩ := HIQ.uniq hS hq h2
  rw [← e1, ← e2] at h3
  exact hn h3
section WR
variable {p : Program} {l : Launch} {e : Env} {R : Room} {s : State} {m : MethodId} {args : Array Value} {below : List Frame} {meth : Method} {c : Code} {H : Heap} {locs : List Loc} {cells slots : Nat} {Q : State → Prop}
variable {pc : Nat} {ls : Array Slot} {rest : List Value} {G : GG} {ws : va_W} {A : Nat → Prop} {y0 : MethodName} {b0 : ByteArray} {mL0 : Nat} {rt0 : Option FieldType} {a : Nat} {H0 : Heap}
end WR
/-- the weight that goes against an hour -/
noncomputable def WGS (P : Nat → Prop) (fs : Nat → Int32) (h : Int32) : Nat → Int32
  | 0 => 0
  | n + 1 => ifc (P n ∧ AGF fs h n) (WGS P fs h n + fs (n * 8 + 4)) (WGS P fs h n)
theorem WGS.y {P : Nat → Prop} {fs : Nat → Int32} {h w : Int32} {n : Nat} (e : w = WGS P fs h n) (p : P n ∧ AGF fs h n) : w + fs (n * 8 + 4) = WGS P fs h (n + 1) := by
  subst e
  exact (ifc_t p).symm
theorem WGS.n {P : Nat → Prop} {fs : Nat → Int32} {h w : Int32} {n : Nat} (e : w = WGS P fs h n) (p : ¬ (P n ∧ AGF fs h n)) : w = WGS P fs h (n + 1) := by
  subst e
  exact (ifc_f p).symm
theorem WGS.n0 {P : Nat → Prop} {fs : Nat → Int32} {h w : Int32} {n : Nat} (e : w = WGS P fs h n) (p : ¬ (P n ∧ AGF fs h n)) : w + 0 = WGS P fs h (n + 1) := by
  rw [Int32.add_zero]
  exact WGS.n e p
theorem WGS.cg {P Q : Nat → Prop} {fs gs : Nat → Int32} {h g : Int32} : ∀ n, (∀ s, s < n → ((P s ∧ AGF fs h s) ↔ (Q s ∧ AGF gs g s)) ∧ fs (s * 8 + 4) = gs (s * 8 + 4)) → WGS P fs h n = WGS Q gs g n
  | 0, _ => rfl
  | n + 1, e => by
    show ifc (P n ∧ AGF fs h n) _ _ = ifc (Q n ∧ AGF gs g n) _ _
    rw [WGS.cg n (fun k hk => e k (by omega)), (e n (by omega)).2]
    by_cases c : P n ∧ AGF fs h n
    · rw [ifc_t c, ifc_t ((e n (by omega)).1.mp c)]
    · rw [ifc_f c, ifc_f (fun h9 => c ((e n (by omega)).1.mpr h9))]
/-- the least weight in f to t, and the least hour with it -/
def BST (W : Int32 → Int32) (f t b l : Int32) : Prop := l = W b ∧ f ≤ b ∧ b ≤ t ∧ (∀ h, f ≤ h → h ≤ t → W b ≤ W h) ∧ ∀ h, f ≤ h → h < b → W b < W h
theorem i_tri (a b : Int32) : a < b ∨ a = b ∨ b < a := by
  rw [Int32.lt_iff_toInt_lt, Int32.lt_iff_toInt_lt, ← Int32.toInt_inj]
  omega
theorem BST.uniq {W : Int32 → Int32} {f t b l b2 l2 : Int32} (h : BST W f t b l) (h2 : BST W f t b2 l2) : b = b2 ∧ l = l2 := by
  obtain ⟨a1, a2, a3, a4, a5⟩ := h
  obtain ⟨c1, c2, c3, c4, c5⟩ := h2
  have e : b = b2 := by
    rcases i_tri b b2 with q | q | q
    · exact absurd (c5 b a2 q) (Int32.not_lt.mpr (a4 b2 c2 c3))
    · exact q
    · exact absurd (a5 b2 c2 q) (Int32.not_lt.mpr (c4 b a2 a3))
  exact ⟨e, by rw [a1, c1, e]⟩
/-- the hours at which the weight may change, by the first k sayings -/
def CAN (P : Nat → Prop) (fs : Nat → Int32) (f t : Int32) (k : Nat) (h : Int32) : Prop := h = f ∨ ∃ s, s < k ∧ P s ∧ h = fs (s * 8 + 3) + 1 ∧ f ≤ h ∧ h ≤ t
def LBT (W : Int32 → Int32) (C : Int32 → Prop) (b l : Int32) : Prop := C b ∧ l = W b ∧ ∀ h, C h → W b < W h ∨ (W b = W h ∧ b ≤ h)
theorem CAN.up {P : Nat → Prop} {fs : Nat → Int32} {f t h : Int32} {k : Nat} (c : CAN P fs f t k h) : CAN P fs f t (k + 1) h := by
  rcases c with c | ⟨s, h1, h2⟩
  · exact Or.inl c
  · exact Or.inr ⟨s, by omega, h2⟩
theorem CAN.dn {P : Nat → Prop} {fs : Nat → Int32} {f t h : Int32} {k : Nat} (c : CAN P fs f t (k + 1) h) : CAN P fs f t k h ∨ (P k ∧ h = fs (k * 8 + 3) + 1 ∧ f ≤ h ∧ h ≤ t) := by
  rcases c with c | ⟨s, h1, h2⟩
  · exact Or.inl (Or.inl c)
  · by_cases e : s = k
    · rw [e] at h2
      exact Or.inr h2
    · exact Or.inl (Or.inr ⟨s, by omega, h2⟩)
theorem LBT.zero {P : Nat → Prop} {fs : Nat → Int32} {f t : Int32} {W : Int32 → Int32} : LBT W (CAN P fs f t 0) f (W f) := ⟨Or.inl rfl, rfl, fun h hc => by
  rcases hc with rfl | ⟨s, h1, -⟩
  · exact Or.inr ⟨rfl, Int32.le_refl _⟩
  · exact absurd h1 (Nat.not_lt_zero s)⟩
theorem LBT.skip {P : Nat → Prop} {fs : Nat → Int32} {f t b l : Int32} {W : Int32 → Int32} {k : Nat} (h : LBT W (CAN P fs f t k) b l) (hn : ¬ (P k ∧ f ≤ fs (k * 8 + 3) + 1 ∧ fs (k * 8 + 3) + 1 ≤ t)) : LBT W (CAN P fs f t (k + 1)) b l := by
  refine ⟨h.1.up, h.2.1, fun x hx => ?_⟩
  rcases hx.dn with hx | ⟨h1, h2, h3, h4⟩
  · exact h.2.2 x hx
  · rw [h2] at h3 h4
    exact absurd ⟨h1, h3, h4⟩ hn
theorem LBT.more {P : Nat → Prop} {fs : Nat → Int32} {f t b l w : Int32} {W : Int32 → Int32} {k : Nat} (h : LBT W (CAN P fs f t k) b l) (hw : w = W (fs (k * 8 + 3) + 1)) (hl : l < w) : LBT W (CAN P fs f t (k + 1)) b l := by
  refine ⟨h.1.up, h.2.1, fun x hx => ?_⟩
  rcases hx.dn with hx | ⟨h1, h2, h3, h4⟩
  · exact h.2.2 x hx
  · rw [h2, ← hw, ← h.2.1]
    exact Or.inl hl
theorem LBT.late {P : Nat → Prop} {fs : Nat → Int32} {f t b l w : Int32} {W : Int32 → Int32} {k : Nat} (h : LBT W (CAN P fs f t k) b l) (hw : w = W (fs (k * 8 + 3) + 1)) (hl : w = l) (hb : b ≤ fs (k * 8 + 3) + 1) : LBT W (CAN P fs f t (k + 1)) b l := by
  refine ⟨h.1.up, h.2.1, fun x hx => ?_⟩
  rcases hx.dn with hx | ⟨h1, h2, h3, h4⟩
  · exact h.2.2 x hx
  · rw [h2, ← hw, ← h.2.1]
    exact Or.inr ⟨hl.symm, hb⟩
theorem LBT.new {P : Nat → Prop} {fs : Nat → Int32} {f t b l w : Int32} {W : Int32 → Int32} {k : Nat} (h : LBT W (CAN P fs f t k) b l) (hw : w = W (fs (k * 8 + 3) + 1)) (hP : P k) (h1 : f ≤ fs (k * 8 + 3) + 1) (h2 : fs (k * 8 + 3) + 1 ≤ t) (hl : w < l ∨ (w = l ∧ fs (k * 8 + 3) + 1 < b)) : LBT W (CAN P fs f t (k + 1)) (fs (k * 8 + 3) + 1) w := by
  refine ⟨Or.inr ⟨k, by omega, hP, rfl, h1, h2⟩, hw, fun x hx => ?_⟩
  rcases hx.dn with hx | ⟨-, e, -⟩
  · have q := h.2.2 x hx
    rw [← h.2.1] at q
    rw [← hw]
    rw [Int32.lt_iff_toInt_lt, Int32.lt_iff_toInt_lt, ← Int32.toInt_inj] at hl
    rw [Int32.lt_iff_toInt_lt, Int32.le_iff_toInt_le, ← Int32.toInt_inj] at q
    rw [Int32.lt_iff_toInt_lt, Int32.le_iff_toInt_le, ← Int32.toInt_inj]
    omega
  · rw [e]
    exact Or.inr ⟨rfl, Int32.le_refl _⟩
theorem WGS.step {P : Nat → Prop} {fs : Nat → Int32} {n : Nat} {h g : Int32} (hg : g.toInt = h.toInt - 1) (hv : ∀ s, s < n → ∃ v, v ≤ 999 ∧ fs (s * 8 + 3) = nI v) (hn : ∀ s, s < n → P s → (fs (s * 8 + 3)).toInt ≠ g.toInt) : WGS P fs g n = WGS P fs h n := by
  refine WGS.cg n (fun s hs => ⟨and_congr_right (fun hp => ?_), rfl⟩)
  have q := hn s hs hp
  unfold AGF
  rw [Int32.lt_iff_toInt_lt, Int32.lt_iff_toInt_lt, Int32.le_iff_toInt_le, Int32.le_iff_toInt_le]
  refine or_congr (and_congr_right (fun _ => ?_)) (and_congr_right (fun _ => ?_))
  · omega
  · omega
theorem dec_ti {h : Int32} (h1 : -100000 ≤ h.toInt) (h2 : h.toInt ≤ 100000) : (h - 1).toInt = h.toInt - 1 := by
  have e1 : (1 : Int32).toInt = 1 := by decide
  rw [ti_sb (by omega) (by omega) (by rw [e1]; decide) (by rw [e1]; decide), e1]
theorem inc_ti {v : Nat} (h : v ≤ 999) : (nI v + 1).toInt = (v : Int) + 1 := by
  have e1 : (1 : Int32).toInt = 1 := by decide
  have e2 := nI_toInt (n := v) (by omega)
  rw [ti_ad (by omega) (by omega) (by rw [e1]; decide) (by rw [e1]; decide), e1, e2]
theorem CAN.near {P : Nat → Prop} {fs : Nat → Int32} {f t : Int32} {n : Nat} (hv : ∀ s, s < n → ∃ v, v ≤ 999 ∧ fs (s * 8 + 3) = nI v) (hf : -200 ≤ f.toInt) (ht : t.toInt ≤ 1167) : ∀ (d : Nat) (h : Int32), h.toInt = f.toInt + (d : Int) → h ≤ t → ∃ c, CAN P fs f t n c ∧ c ≤ h ∧ WGS P fs c n = WGS P fs h n
  | 0, h, e, _ => ⟨f, Or.inl rfl, by rw [Int32.le_iff_toInt_le]; omega, by rw [show h = f from Int32.toInt_inj.mp (by omega)]⟩
  | d + 1, h, e, hht => by
    have hh := hht
    rw [Int32.le_iff_toInt_le] at hh
    by_cases c : ∃ s, s < n ∧ P s ∧ h = fs (s * 8 + 3) + 1
    · obtain ⟨s, h1, h2, h3⟩ := c
      exact ⟨h, Or.inr ⟨s, h1, h2, h3, by rw [Int32.le_iff_toInt_le]; omega, hht⟩, Int32.le_refl h, rfl⟩
    · have e2 := dec_ti (h := h) (by omega) (by omega)
      obtain ⟨x, x1, x2, x3⟩ := CAN.near hv hf ht d (h - 1) (by omega) (by rw [Int32.le_iff_toInt_le]; omega)
      refine ⟨x, x1, by rw [Int32.le_iff_toInt_le] at *; omega, x3.trans (WGS.step e2 hv (fun s hs hp q => c ⟨s, hs, hp, ?_⟩))⟩
      obtain ⟨v, v1, v2⟩ := hv s hs
      rw [v2]
      rw [v2, nI_toInt (by omega)] at q
      exact Int32.toInt_inj.mp (by rw [inc_ti v1]; omega)
theorem LBT.bst {P : Nat → Prop} {fs : Nat → Int32} {f t b l : Int32} {n : Nat} (hv : ∀ s, s < n → ∃ v, v ≤ 999 ∧ fs (s * 8 + 3) = nI v) (hft : f ≤ t) (hf : -200 ≤ f.toInt) (ht : t.toInt ≤ 1167) (h : LBT (fun h9 => WGS P fs h9 n) (CAN P fs f t n) b l) : BST (fun h9 => WGS P fs h9 n) f t b l := by
  have hb : f ≤ b ∧ b ≤ t := by
    rcases h.1 with e | ⟨s, -, -, -, h1, h2⟩
    · rw [e]; exact ⟨Int32.le_refl f, hft⟩
    · exact ⟨h1, h2⟩
  have nr : ∀ x, f ≤ x → x ≤ t → ∃ c, CAN P fs f t n c ∧ c ≤ x ∧ WGS P fs c n = WGS P fs x n := fun x h1 h2 => by
    have h1' := h1
    rw [Int32.le_iff_toInt_le] at h1'
    exact CAN.near hv hf ht (x.toInt - f.toInt).toNat x (by omega) h2
  refine ⟨h.2.1, hb.1, hb.2, fun x h1 h2 => ?_, fun x h1 h2 => ?_⟩
  · obtain ⟨c, c1, c2, c3⟩ := nr x h1 h2
    have q : WGS P fs b n < WGS P fs c n ∨ (WGS P fs b n = WGS P fs c n ∧ b ≤ c) := h.2.2 c c1
    show WGS P fs b n ≤ WGS P fs x n
    rw [← c3]
    rcases q with q | ⟨q, -⟩
    · exact i_lt_le2 q
    · rw [q]; exact Int32.le_refl _
  · obtain ⟨c, c1, c2, c3⟩ := nr x h1 (i_le_trans (i_lt_le2 h2) hb.2)
    have q : WGS P fs b n < WGS P fs c n ∨ (WGS P fs b n = WGS P fs c n ∧ b ≤ c) := h.2.2 c c1
    show WGS P fs b n < WGS P fs x n
    rw [← c3]
    rcases q with q | ⟨-, q⟩
    · exact q
    · exact absurd (i_le_trans q c2) (Int32.not_le.mpr h2)
/-- the sayings of a person and a paper that count -/
def PWS (fs fp : Nat → Int32) (td vd vl : Int32) (e p : Nat) (s : Nat) : Prop := fs (s * 8 + 1) = nI e ∧ fs (s * 8 + 2) = nI p ∧ CSQ fs fp td vd vl s
def PSL (fe : Nat → Int32) : Prop := ∀ e, e < 10 → 0 ≤ (fe (e * 2 + 1)).toInt ∧ (fe (e * 2 + 1)).toInt ≤ 48
/-- what quarrel answers -/
def QRQ (K : Nat → Nat → Int → Prop) (ft : Nat → Int32) (V : Nat → Prop) (fp fe fs : Nat → Int32) (td vd vl : Int32) (k kp ke n : Nat) (x1 x2 x3 r : Int32) : Prop := (¬ (Hs x1 ke ∧ Hs x2 kp ∧ Wi x3 0 1) ∧ r = (-1)) ∨ ∃ e p, e < ke ∧ p < kp ∧ x1 = nI e ∧ x2 = nI p ∧ Wi x3 0 1 ∧ ((¬ V p ∧ r = (-3)) ∨ (V p ∧ ∃ f t b l, HIQ K ft V (fp (p * 6 + 0)) (fp (p * 6 + 1)) (fe (e * 2 + 1)) k p e f t ∧ BST (fun h9 => WGS (PWS fs fp td vd vl e p) fs h9 n) f t b l ∧ ((x3 = 0 ∧ r = l) ∨ (¬ x3 = 0 ∧ r = b + 1000))))
section WR
variable {p : Program} {l : Launch} {e : Env} {R : Room} {s : State} {m : MethodId} {args : Array Value} {below : List Frame} {meth : Method} {c : Code} {H : Heap} {locs : List Loc} {cells slots : Nat} {Q : State → Prop}
variable {pc : Nat} {ls : Array Slot} {rest : List Value} {G : GG} {ws : va_W} {A : Nat → Prop} {y0 : MethodName} {b0 : ByteArray} {mL0 : Nat} {rt0 : Option FieldType} {a : Nat} {H0 : Heap}
end WR
theorem Wi_le {x a b : Int32} : Wi x a b ↔ a ≤ x ∧ x ≤ b := by
  unfold Wi
  rw [Int32.not_lt, Int32.not_lt]
theorem i_le_ne {a b : Int32} (h : a ≤ b) (h2 : ¬ a = b) : a < b := by
  rw [Int32.le_iff_toInt_le] at h
  rw [← Int32.toInt_inj] at h2
  rw [Int32.lt_iff_toInt_lt]
  omega
section WR
variable {p : Program} {l : Launch} {e : Env} {R : Room} {s : State} {m : MethodId} {args : Array Value} {below : List Frame} {meth : Method} {c : Code} {H : Heap} {locs : List Loc} {cells slots : Nat} {Q : State → Prop}
variable {pc : Nat} {ls : Array Slot} {rest : List Value} {G : GG} {ws : va_W} {A : Nat → Prop} {y0 : MethodName} {b0 : ByteArray} {mL0 : Nat} {rt0 : Option FieldType} {a : Nat} {H0 : Heap}
end WR
theorem rm_42_1_3 {mc ms : Nat} : 1 + 1 ≤ (RM 42 mc ms).frames ∧ 8 + (3 + 11) + 40 * 1 ≤ (RM 42 mc ms).locals := ⟨by show 1 + 1 ≤ 42; decide, by show 8 + (3 + 11) + 40 * 1 ≤ 40 * 42; decide⟩
theorem rm_42_3_6 {mc ms : Nat} : 3 + 1 ≤ (RM 42 mc ms).frames ∧ 8 + (6 + 11) + 40 * 3 ≤ (RM 42 mc ms).locals := ⟨by show 3 + 1 ≤ 42; decide, by show 8 + (6 + 11) + 40 * 3 ≤ 40 * 42; decide⟩
theorem sm_1_39_40 {a0 a1 a2 a3 a4 a5 a6 a7 a8 a9 a10 a11 a12 a13 a14 a15 a16 a17 a18 a19 a20 a21 a22 a23 a24 a25 a26 a27 a28 a29 a30 a31 a32 a33 a34 a35 a36 a37 a38 a39 a40 : Nat × va_E} {l : va_W} : ([1, 39, 40] : List Nat).map (fun i => (a0 :: a1 :: a2 :: a3 :: a4 :: a5 :: a6 :: a7 :: a8 :: a9 :: a10 :: a11 :: a12 :: a13 :: a14 :: a15 :: a16 :: a17 :: a18 :: a19 :: a20 :: a21 :: a22 :: a23 :: a24 :: a25 :: a26 :: a27 :: a28 :: a29 :: a30 :: a31 :: a32 :: a33 :: a34 :: a35 :: a36 :: a37 :: a38 :: a39 :: a40 :: l : va_W)[i]?) = ([a1, a39, a40] : va_W).map some := rfl
theorem fm_1_39_40 {a0 a1 a2 a3 a4 a5 a6 a7 a8 a9 a10 a11 a12 a13 a14 a15 a16 a17 a18 a19 a20 a21 a22 a23 a24 a25 a26 a27 a28 a29 a30 a31 a32 a33 a34 a35 a36 a37 a38 a39 a40 : Nat × va_E} {l : va_W} : ([1, 39, 40] : List Nat).filterMap (fun i => (a0 :: a1 :: a2 :: a3 :: a4 :: a5 :: a6 :: a7 :: a8 :: a9 :: a10 :: a11 :: a12 :: a13 :: a14 :: a15 :: a16 :: a17 :: a18 :: a19 :: a20 :: a21 :: a22 :: a23 :: a24 :: a25 :: a26 :: a27 :: a28 :: a29 :: a30 :: a31 :: a32 :: a33 :: a34 :: a35 :: a36 :: a37 :: a38 :: a39 :: a40 :: l : va_W)[i]?) = ([a1, a39, a40] : va_W) := rfl
theorem nd_1_39_40 : va_nd [1, 39, 40] = true := by decide
theorem rm_42_5_4 {mc ms : Nat} : 5 + 1 ≤ (RM 42 mc ms).frames ∧ 8 + (4 + 11) + 40 * 5 ≤ (RM 42 mc ms).locals := ⟨by show 5 + 1 ≤ 42; decide, by show 8 + (4 + 11) + 40 * 5 ≤ 40 * 42; decide⟩
theorem sm_2_3_4_5_6_7_8_9_10_1_41_42 {a0 a1 a2 a3 a4 a5 a6 a7 a8 a9 a10 a11 a12 a13 a14 a15 a16 a17 a18 a19 a20 a21 a22 a23 a24 a25 a26 a27 a28 a29 a30 a31 a32 a33 a34 a35 a36 a37 a38 a39 a40 a41 a42 : Nat × va_E} {l : va_W} : ([2, 3, 4, 5, 6, 7, 8, 9, 10, 1, 41, 42] : List Nat).map (fun i => (a0 :: a1 :: a2 :: a3 :: a4 :: a5 :: a6 :: a7 :: a8 :: a9 :: a10 :: a11 :: a12 :: a13 :: a14 :: a15 :: a16 :: a17 :: a18 :: a19 :: a20 :: a21 :: a22 :: a23 :: a24 :: a25 :: a26 :: a27 :: a28 :: a29 :: a30 :: a31 :: a32 :: a33 :: a34 :: a35 :: a36 :: a37 :: a38 :: a39 :: a40 :: a41 :: a42 :: l : va_W)[i]?) = ([a2, a3, a4, a5, a6, a7, a8, a9, a10, a1, a41, a42] : va_W).map some := rfl
theorem fm_2_3_4_5_6_7_8_9_10_1_41_42 {a0 a1 a2 a3 a4 a5 a6 a7 a8 a9 a10 a11 a12 a13 a14 a15 a16 a17 a18 a19 a20 a21 a22 a23 a24 a25 a26 a27 a28 a29 a30 a31 a32 a33 a34 a35 a36 a37 a38 a39 a40 a41 a42 : Nat × va_E} {l : va_W} : ([2, 3, 4, 5, 6, 7, 8, 9, 10, 1, 41, 42] : List Nat).filterMap (fun i => (a0 :: a1 :: a2 :: a3 :: a4 :: a5 :: a6 :: a7 :: a8 :: a9 :: a10 :: a11 :: a12 :: a13 :: a14 :: a15 :: a16 :: a17 :: a18 :: a19 :: a20 :: a21 :: a22 :: a23 :: a24 :: a25 :: a26 :: a27 :: a28 :: a29 :: a30 :: a31 :: a32 :: a33 :: a34 :: a35 :: a36 :: a37 :: a38 :: a39 :: a40 :: a41 :: a42 :: l : va_W)[i]?) = ([a2, a3, a4, a5, a6, a7, a8, a9, a10, a1, a41, a42] : va_W) := rfl
theorem nd_2_3_4_5_6_7_8_9_10_1_41_42 : va_nd [2, 3, 4, 5, 6, 7, 8, 9, 10, 1, 41, 42] = true := by decide
theorem sm_0_11_12_13_14_15_16_17_18_19_20_21_22_23_24_25_26_27_28_29_30_31_32_33_34_35_36_37_38_39_40 {a0 a1 a2 a3 a4 a5 a6 a7 a8 a9 a10 a11 a12 a13 a14 a15 a16 a17 a18 a19 a20 a21 a22 a23 a24 a25 a26 a27 a28 a29 a30 a31 a32 a33 a34 a35 a36 a37 a38 a39 a40 : Nat × va_E} {l : va_W} : ([0, 11, 12, 13, 14, 15, 16, 17, 18, 19, 20, 21, 22, 23, 24, 25, 26, 27, 28, 29, 30, 31, 32, 33, 34, 35, 36, 37, 38, 39, 40] : List Nat).map (fun i => (a0 :: a1 :: a2 :: a3 :: a4 :: a5 :: a6 :: a7 :: a8 :: a9 :: a10 :: a11 :: a12 :: a13 :: a14 :: a15 :: a16 :: a17 :: a18 :: a19 :: a20 :: a21 :: a22 :: a23 :: a24 :: a25 :: a26 :: a27 :: a28 :: a29 :: a30 :: a31 :: a32 :: a33 :: a34 :: a35 :: a36 :: a37 :: a38 :: a39 :: a40 :: l : va_W)[i]?) = ([a0, a11, a12, a13, a14, a15, a16, a17, a18, a19, a20, a21, a22, a23, a24, a25, a26, a27, a28, a29, a30, a31, a32, a33, a34, a35, a36, a37, a38, a39, a40] : va_W).map some := rfl
theorem nd_0_11_12_13_14_15_16_17_18_19_20_21_22_23_24_25_26_27_28_29_30_31_32_33_34_35_36_37_38_39_40 : va_nd [0, 11, 12, 13, 14, 15, 16, 17, 18, 19, 20, 21, 22, 23, 24, 25, 26, 27, 28, 29, 30, 31, 32, 33, 34, 35, 36, 37, 38, 39, 40] = true := by decide
theorem dj_2_3_4_5_6_7_8_9_10_1_41_42__0_11_12_13_14_15_16_17_18_19_20_21_22_23_24_25_26_27_28_29_30_31_32_33_34_35_36_37_38_39_40 : ∀ i ∈ ([0, 11, 12, 13, 14, 15, 16, 17, 18, 19, 20, 21, 22, 23, 24, 25, 26, 27, 28, 29, 30, 31, 32, 33, 34, 35, 36, 37, 38, 39, 40] : List Nat), i ∉ ([2, 3, 4, 5, 6, 7, 8, 9, 10, 1, 41, 42] : List Nat) := by decide
theorem rm_42_1_1 {mc ms : Nat} : 1 + 1 ≤ (RM 42 mc ms).frames ∧ 8 + (1 + 11) + 40 * 1 ≤ (RM 42 mc ms).locals := ⟨by show 1 + 1 ≤ 42; decide, by show 8 + (1 + 11) + 40 * 1 ≤ 40 * 42; decide⟩
theorem rm_42_40_3 {mc ms : Nat} : 40 + 1 ≤ (RM 42 mc ms).frames ∧ 8 + (3 + 11) + 40 * 40 ≤ (RM 42 mc ms).locals := ⟨by show 40 + 1 ≤ 42; decide, by show 8 + (3 + 11) + 40 * 40 ≤ 40 * 42; decide⟩
theorem sm_11_12_13_14_15_16_17_18_19_20_21_22_23_24_25_26_27_28_29_30_31_32_33_34_35_36_37_38_1_41_42_39_40 {a0 a1 a2 a3 a4 a5 a6 a7 a8 a9 a10 a11 a12 a13 a14 a15 a16 a17 a18 a19 a20 a21 a22 a23 a24 a25 a26 a27 a28 a29 a30 a31 a32 a33 a34 a35 a36 a37 a38 a39 a40 a41 a42 : Nat × va_E} {l : va_W} : ([11, 12, 13, 14, 15, 16, 17, 18, 19, 20, 21, 22, 23, 24, 25, 26, 27, 28, 29, 30, 31, 32, 33, 34, 35, 36, 37, 38, 1, 41, 42, 39, 40] : List Nat).map (fun i => (a0 :: a1 :: a2 :: a3 :: a4 :: a5 :: a6 :: a7 :: a8 :: a9 :: a10 :: a11 :: a12 :: a13 :: a14 :: a15 :: a16 :: a17 :: a18 :: a19 :: a20 :: a21 :: a22 :: a23 :: a24 :: a25 :: a26 :: a27 :: a28 :: a29 :: a30 :: a31 :: a32 :: a33 :: a34 :: a35 :: a36 :: a37 :: a38 :: a39 :: a40 :: a41 :: a42 :: l : va_W)[i]?) = ([a11, a12, a13, a14, a15, a16, a17, a18, a19, a20, a21, a22, a23, a24, a25, a26, a27, a28, a29, a30, a31, a32, a33, a34, a35, a36, a37, a38, a1, a41, a42, a39, a40] : va_W).map some := rfl
theorem fm_11_12_13_14_15_16_17_18_19_20_21_22_23_24_25_26_27_28_29_30_31_32_33_34_35_36_37_38_1_41_42_39_40 {a0 a1 a2 a3 a4 a5 a6 a7 a8 a9 a10 a11 a12 a13 a14 a15 a16 a17 a18 a19 a20 a21 a22 a23 a24 a25 a26 a27 a28 a29 a30 a31 a32 a33 a34 a35 a36 a37 a38 a39 a40 a41 a42 : Nat × va_E} {l : va_W} : ([11, 12, 13, 14, 15, 16, 17, 18, 19, 20, 21, 22, 23, 24, 25, 26, 27, 28, 29, 30, 31, 32, 33, 34, 35, 36, 37, 38, 1, 41, 42, 39, 40] : List Nat).filterMap (fun i => (a0 :: a1 :: a2 :: a3 :: a4 :: a5 :: a6 :: a7 :: a8 :: a9 :: a10 :: a11 :: a12 :: a13 :: a14 :: a15 :: a16 :: a17 :: a18 :: a19 :: a20 :: a21 :: a22 :: a23 :: a24 :: a25 :: a26 :: a27 :: a28 :: a29 :: a30 :: a31 :: a32 :: a33 :: a34 :: a35 :: a36 :: a37 :: a38 :: a39 :: a40 :: a41 :: a42 :: l : va_W)[i]?) = ([a11, a12, a13, a14, a15, a16, a17, a18, a19, a20, a21, a22, a23, a24, a25, a26, a27, a28, a29, a30, a31, a32, a33, a34, a35, a36, a37, a38, a1, a41, a42, a39, a40] : va_W) := rfl
theorem nd_11_12_13_14_15_16_17_18_19_20_21_22_23_24_25_26_27_28_29_30_31_32_33_34_35_36_37_38_1_41_42_39_40 : va_nd [11, 12, 13, 14, 15, 16, 17, 18, 19, 20, 21, 22, 23, 24, 25, 26, 27, 28, 29, 30, 31, 32, 33, 34, 35, 36, 37, 38, 1, 41, 42, 39, 40] = true := by decide
theorem sm_0_2_3_4_5_6_7_8_9_10 {a0 a1 a2 a3 a4 a5 a6 a7 a8 a9 a10 : Nat × va_E} {l : va_W} : ([0, 2, 3, 4, 5, 6, 7, 8, 9, 10] : List Nat).map (fun i => (a0 :: a1 :: a2 :: a3 :: a4 :: a5 :: a6 :: a7 :: a8 :: a9 :: a10 :: l : va_W)[i]?) = ([a0, a2, a3, a4, a5, a6, a7, a8, a9, a10] : va_W).map some := rfl
theorem nd_0_2_3_4_5_6_7_8_9_10 : va_nd [0, 2, 3, 4, 5, 6, 7, 8, 9, 10] = true := by decide
theorem dj_11_12_13_14_15_16_17_18_19_20_21_22_23_24_25_26_27_28_29_30_31_32_33_34_35_36_37_38_1_41_42_39_40__0_2_3_4_5_6_7_8_9_10 : ∀ i ∈ ([0, 2, 3, 4, 5, 6, 7, 8, 9, 10] : List Nat), i ∉ ([11, 12, 13, 14, 15, 16, 17, 18, 19, 20, 21, 22, 23, 24, 25, 26, 27, 28, 29, 30, 31, 32, 33, 34, 35, 36, 37, 38, 1, 41, 42, 39, 40] : List Nat) := by decide
theorem rm_6_5_4 {mc ms : Nat} : 5 + 1 ≤ (RM 6 mc ms).frames ∧ 8 + (4 + 11) + 40 * 5 ≤ (RM 6 mc ms).locals := ⟨by show 5 + 1 ≤ 6; decide, by show 8 + (4 + 11) + 40 * 5 ≤ 40 * 6; decide⟩
theorem sm_1_2_3_4_5_6_7_8_9_13_24_25 {a0 a1 a2 a3 a4 a5 a6 a7 a8 a9 a10 a11 a12 a13 a14 a15 a16 a17 a18 a19 a20 a21 a22 a23 a24 a25 : Nat × va_E} {l : va_W} : ([1, 2, 3, 4, 5, 6, 7, 8, 9, 13, 24, 25] : List Nat).map (fun i => (a0 :: a1 :: a2 :: a3 :: a4 :: a5 :: a6 :: a7 :: a8 :: a9 :: a10 :: a11 :: a12 :: a13 :: a14 :: a15 :: a16 :: a17 :: a18 :: a19 :: a20 :: a21 :: a22 :: a23 :: a24 :: a25 :: l : va_W)[i]?) = ([a1, a2, a3, a4, a5, a6, a7, a8, a9, a13, a24, a25] : va_W).map some := rfl
theorem fm_1_2_3_4_5_6_7_8_9_13_24_25 {a0 a1 a2 a3 a4 a5 a6 a7 a8 a9 a10 a11 a12 a13 a14 a15 a16 a17 a18 a19 a20 a21 a22 a23 a24 a25 : Nat × va_E} {l : va_W} : ([1, 2, 3, 4, 5, 6, 7, 8, 9, 13, 24, 25] : List Nat).filterMap (fun i => (a0 :: a1 :: a2 :: a3 :: a4 :: a5 :: a6 :: a7 :: a8 :: a9 :: a10 :: a11 :: a12 :: a13 :: a14 :: a15 :: a16 :: a17 :: a18 :: a19 :: a20 :: a21 :: a22 :: a23 :: a24 :: a25 :: l : va_W)[i]?) = ([a1, a2, a3, a4, a5, a6, a7, a8, a9, a13, a24, a25] : va_W) := rfl
theorem nd_1_2_3_4_5_6_7_8_9_13_24_25 : va_nd [1, 2, 3, 4, 5, 6, 7, 8, 9, 13, 24, 25] = true := by decide
theorem sm_0_10_11_12_14_15_16_17_18_19_20_21_22_23 {a0 a1 a2 a3 a4 a5 a6 a7 a8 a9 a10 a11 a12 a13 a14 a15 a16 a17 a18 a19 a20 a21 a22 a23 : Nat × va_E} {l : va_W} : ([0, 10, 11, 12, 14, 15, 16, 17, 18, 19, 20, 21, 22, 23] : List Nat).map (fun i => (a0 :: a1 :: a2 :: a3 :: a4 :: a5 :: a6 :: a7 :: a8 :: a9 :: a10 :: a11 :: a12 :: a13 :: a14 :: a15 :: a16 :: a17 :: a18 :: a19 :: a20 :: a21 :: a22 :: a23 :: l : va_W)[i]?) = ([a0, a10, a11, a12, a14, a15, a16, a17, a18, a19, a20, a21, a22, a23] : va_W).map some := rfl
theorem nd_0_10_11_12_14_15_16_17_18_19_20_21_22_23 : va_nd [0, 10, 11, 12, 14, 15, 16, 17, 18, 19, 20, 21, 22, 23] = true := by decide
theorem dj_1_2_3_4_5_6_7_8_9_13_24_25__0_10_11_12_14_15_16_17_18_19_20_21_22_23 : ∀ i ∈ ([0, 10, 11, 12, 14, 15, 16, 17, 18, 19, 20, 21, 22, 23] : List Nat), i ∉ ([1, 2, 3, 4, 5, 6, 7, 8, 9, 13, 24, 25] : List Nat) := by decide
theorem rm_6_5_5 {mc ms : Nat} : 5 + 1 ≤ (RM 6 mc ms).frames ∧ 8 + (5 + 11) + 40 * 5 ≤ (RM 6 mc ms).locals := ⟨by show 5 + 1 ≤ 6; decide, by show 8 + (5 + 11) + 40 * 5 ≤ 40 * 6; decide⟩
theorem sm_1_2_3_14_18_19_20_21_22_23_4_5_6_7_8_9_10_11_12_13 {a0 a1 a2 a3 a4 a5 a6 a7 a8 a9 a10 a11 a12 a13 a14 a15 a16 a17 a18 a19 a20 a21 a22 a23 : Nat × va_E} {l : va_W} : ([1, 2, 3, 14, 18, 19, 20, 21, 22, 23, 4, 5, 6, 7, 8, 9, 10, 11, 12, 13] : List Nat).map (fun i => (a0 :: a1 :: a2 :: a3 :: a4 :: a5 :: a6 :: a7 :: a8 :: a9 :: a10 :: a11 :: a12 :: a13 :: a14 :: a15 :: a16 :: a17 :: a18 :: a19 :: a20 :: a21 :: a22 :: a23 :: l : va_W)[i]?) = ([a1, a2, a3, a14, a18, a19, a20, a21, a22, a23, a4, a5, a6, a7, a8, a9, a10, a11, a12, a13] : va_W).map some := rfl
theorem fm_1_2_3_14_18_19_20_21_22_23_4_5_6_7_8_9_10_11_12_13 {a0 a1 a2 a3 a4 a5 a6 a7 a8 a9 a10 a11 a12 a13 a14 a15 a16 a17 a18 a19 a20 a21 a22 a23 : Nat × va_E} {l : va_W} : ([1, 2, 3, 14, 18, 19, 20, 21, 22, 23, 4, 5, 6, 7, 8, 9, 10, 11, 12, 13] : List Nat).filterMap (fun i => (a0 :: a1 :: a2 :: a3 :: a4 :: a5 :: a6 :: a7 :: a8 :: a9 :: a10 :: a11 :: a12 :: a13 :: a14 :: a15 :: a16 :: a17 :: a18 :: a19 :: a20 :: a21 :: a22 :: a23 :: l : va_W)[i]?) = ([a1, a2, a3, a14, a18, a19, a20, a21, a22, a23, a4, a5, a6, a7, a8, a9, a10, a11, a12, a13] : va_W) := rfl
theorem nd_1_2_3_14_18_19_20_21_22_23_4_5_6_7_8_9_10_11_12_13 : va_nd [1, 2, 3, 14, 18, 19, 20, 21, 22, 23, 4, 5, 6, 7, 8, 9, 10, 11, 12, 13] = true := by decide
theorem sm_0_15_16_17_24_25 {a0 a1 a2 a3 a4 a5 a6 a7 a8 a9 a10 a11 a12 a13 a14 a15 a16 a17 a18 a19 a20 a21 a22 a23 a24 a25 : Nat × va_E} {l : va_W} : ([0, 15, 16, 17, 24, 25] : List Nat).map (fun i => (a0 :: a1 :: a2 :: a3 :: a4 :: a5 :: a6 :: a7 :: a8 :: a9 :: a10 :: a11 :: a12 :: a13 :: a14 :: a15 :: a16 :: a17 :: a18 :: a19 :: a20 :: a21 :: a22 :: a23 :: a24 :: a25 :: l : va_W)[i]?) = ([a0, a15, a16, a17, a24, a25] : va_W).map some := rfl
theorem nd_0_15_16_17_24_25 : va_nd [0, 15, 16, 17, 24, 25] = true := by decide
theorem dj_1_2_3_14_18_19_20_21_22_23_4_5_6_7_8_9_10_11_12_13__0_15_16_17_24_25 : ∀ i ∈ ([0, 15, 16, 17, 24, 25] : List Nat), i ∉ ([1, 2, 3, 14, 18, 19, 20, 21, 22, 23, 4, 5, 6, 7, 8, 9, 10, 11, 12, 13] : List Nat) := by decide
theorem sm_6_8 {a0 a1 a2 a3 a4 a5 a6 a7 a8 : Nat × va_E} {l : va_W} : ([6, 8] : List Nat).map (fun i => (a0 :: a1 :: a2 :: a3 :: a4 :: a5 :: a6 :: a7 :: a8 :: l : va_W)[i]?) = ([a6, a8] : va_W).map some := rfl
theorem fm_6_8 {a0 a1 a2 a3 a4 a5 a6 a7 a8 : Nat × va_E} {l : va_W} : ([6, 8] : List Nat).filterMap (fun i => (a0 :: a1 :: a2 :: a3 :: a4 :: a5 :: a6 :: a7 :: a8 :: l : va_W)[i]?) = ([a6, a8] : va_W) := rfl
theorem nd_6_8 : va_nd [6, 8] = true := by decide
theorem rm_6_4_6 {mc ms : Nat} : 4 + 1 ≤ (RM 6 mc ms).frames ∧ 8 + (6 + 11) + 40 * 4 ≤ (RM 6 mc ms).locals := ⟨by show 4 + 1 ≤ 6; decide, by show 8 + (6 + 11) + 40 * 4 ≤ 40 * 6; decide⟩
theorem sm_14_18_19_20_21_22_23_8_9_6_7 {a0 a1 a2 a3 a4 a5 a6 a7 a8 a9 a10 a11 a12 a13 a14 a15 a16 a17 a18 a19 a20 a21 a22 a23 : Nat × va_E} {l : va_W} : ([14, 18, 19, 20, 21, 22, 23, 8, 9, 6, 7] : List Nat).map (fun i => (a0 :: a1 :: a2 :: a3 :: a4 :: a5 :: a6 :: a7 :: a8 :: a9 :: a10 :: a11 :: a12 :: a13 :: a14 :: a15 :: a16 :: a17 :: a18 :: a19 :: a20 :: a21 :: a22 :: a23 :: l : va_W)[i]?) = ([a14, a18, a19, a20, a21, a22, a23, a8, a9, a6, a7] : va_W).map some := rfl
theorem fm_14_18_19_20_21_22_23_8_9_6_7 {a0 a1 a2 a3 a4 a5 a6 a7 a8 a9 a10 a11 a12 a13 a14 a15 a16 a17 a18 a19 a20 a21 a22 a23 : Nat × va_E} {l : va_W} : ([14, 18, 19, 20, 21, 22, 23, 8, 9, 6, 7] : List Nat).filterMap (fun i => (a0 :: a1 :: a2 :: a3 :: a4 :: a5 :: a6 :: a7 :: a8 :: a9 :: a10 :: a11 :: a12 :: a13 :: a14 :: a15 :: a16 :: a17 :: a18 :: a19 :: a20 :: a21 :: a22 :: a23 :: l : va_W)[i]?) = ([a14, a18, a19, a20, a21, a22, a23, a8, a9, a6, a7] : va_W) := rfl
theorem nd_14_18_19_20_21_22_23_8_9_6_7 : va_nd [14, 18, 19, 20, 21, 22, 23, 8, 9, 6, 7] = true := by decide
theorem sm_16 {a0 a1 a2 a3 a4 a5 a6 a7 a8 a9 a10 a11 a12 a13 a14 a15 a16 : Nat × va_E} {l : va_W} : ([16] : List Nat).map (fun i => (a0 :: a1 :: a2 :: a3 :: a4 :: a5 :: a6 :: a7 :: a8 :: a9 :: a10 :: a11 :: a12 :: a13 :: a14 :: a15 :: a16 :: l : va_W)[i]?) = ([a16] : va_W).map some := rfl
theorem fm_16 {a0 a1 a2 a3 a4 a5 a6 a7 a8 a9 a10 a11 a12 a13 a14 a15 a16 : Nat × va_E} {l : va_W} : ([16] : List Nat).filterMap (fun i => (a0 :: a1 :: a2 :: a3 :: a4 :: a5 :: a6 :: a7 :: a8 :: a9 :: a10 :: a11 :: a12 :: a13 :: a14 :: a15 :: a16 :: l : va_W)[i]?) = ([a16] : va_W) := rfl
theorem nd_16 : va_nd [16] = true := by decide
theorem rm_7_2_1 {mc ms : Nat} : 2 + 1 ≤ (RM 7 mc ms).frames ∧ 8 + (1 + 11) + 40 * 2 ≤ (RM 7 mc ms).locals := ⟨by show 2 + 1 ≤ 7; decide, by show 8 + (1 + 11) + 40 * 2 ≤ 40 * 7; decide⟩
theorem sm_13_18_19 {a0 a1 a2 a3 a4 a5 a6 a7 a8 a9 a10 a11 a12 a13 a14 a15 a16 a17 a18 a19 : Nat × va_E} {l : va_W} : ([13, 18, 19] : List Nat).map (fun i => (a0 :: a1 :: a2 :: a3 :: a4 :: a5 :: a6 :: a7 :: a8 :: a9 :: a10 :: a11 :: a12 :: a13 :: a14 :: a15 :: a16 :: a17 :: a18 :: a19 :: l : va_W)[i]?) = ([a13, a18, a19] : va_W).map some := rfl
theorem fm_13_18_19 {a0 a1 a2 a3 a4 a5 a6 a7 a8 a9 a10 a11 a12 a13 a14 a15 a16 a17 a18 a19 : Nat × va_E} {l : va_W} : ([13, 18, 19] : List Nat).filterMap (fun i => (a0 :: a1 :: a2 :: a3 :: a4 :: a5 :: a6 :: a7 :: a8 :: a9 :: a10 :: a11 :: a12 :: a13 :: a14 :: a15 :: a16 :: a17 :: a18 :: a19 :: l : va_W)[i]?) = ([a13, a18, a19] : va_W) := rfl
theorem nd_13_18_19 : va_nd [13, 18, 19] = true := by decide
theorem rm_7_6_5 {mc ms : Nat} : 6 + 1 ≤ (RM 7 mc ms).frames ∧ 8 + (5 + 11) + 40 * 6 ≤ (RM 7 mc ms).locals := ⟨by show 6 + 1 ≤ 7; decide, by show 8 + (5 + 11) + 40 * 6 ≤ 40 * 7; decide⟩
theorem sm_0_1_2_3_4_5_6_7_8_9_10_11_12_13_14_15_16_17_18_19_20_21_22_23_24_25 {a0 a1 a2 a3 a4 a5 a6 a7 a8 a9 a10 a11 a12 a13 a14 a15 a16 a17 a18 a19 a20 a21 a22 a23 a24 a25 : Nat × va_E} {l : va_W} : ([0, 1, 2, 3, 4, 5, 6, 7, 8, 9, 10, 11, 12, 13, 14, 15, 16, 17, 18, 19, 20, 21, 22, 23, 24, 25] : List Nat).map (fun i => (a0 :: a1 :: a2 :: a3 :: a4 :: a5 :: a6 :: a7 :: a8 :: a9 :: a10 :: a11 :: a12 :: a13 :: a14 :: a15 :: a16 :: a17 :: a18 :: a19 :: a20 :: a21 :: a22 :: a23 :: a24 :: a25 :: l : va_W)[i]?) = ([a0, a1, a2, a3, a4, a5, a6, a7, a8, a9, a10, a11, a12, a13, a14, a15, a16, a17, a18, a19, a20, a21, a22, a23, a24, a25] : va_W).map some := rfl
theorem fm_0_1_2_3_4_5_6_7_8_9_10_11_12_13_14_15_16_17_18_19_20_21_22_23_24_25 {a0 a1 a2 a3 a4 a5 a6 a7 a8 a9 a10 a11 a12 a13 a14 a15 a16 a17 a18 a19 a20 a21 a22 a23 a24 a25 : Nat × va_E} {l : va_W} : ([0, 1, 2, 3, 4, 5, 6, 7, 8, 9, 10, 11, 12, 13, 14, 15, 16, 17, 18, 19, 20, 21, 22, 23, 24, 25] : List Nat).filterMap (fun i => (a0 :: a1 :: a2 :: a3 :: a4 :: a5 :: a6 :: a7 :: a8 :: a9 :: a10 :: a11 :: a12 :: a13 :: a14 :: a15 :: a16 :: a17 :: a18 :: a19 :: a20 :: a21 :: a22 :: a23 :: a24 :: a25 :: l : va_W)[i]?) = ([a0, a1, a2, a3, a4, a5, a6, a7, a8, a9, a10, a11, a12, a13, a14, a15, a16, a17, a18, a19, a20, a21, a22, a23, a24, a25] : va_W) := rfl
theorem nd_0_1_2_3_4_5_6_7_8_9_10_11_12_13_14_15_16_17_18_19_20_21_22_23_24_25 : va_nd [0, 1, 2, 3, 4, 5, 6, 7, 8, 9, 10, 11, 12, 13, 14, 15, 16, 17, 18, 19, 20, 21, 22, 23, 24, 25] = true := by decide
theorem rm_7_5_5 {mc ms : Nat} : 5 + 1 ≤ (RM 7 mc ms).frames ∧ 8 + (5 + 11) + 40 * 5 ≤ (RM 7 mc ms).locals := ⟨by show 5 + 1 ≤ 7; decide, by show 8 + (5 + 11) + 40 * 5 ≤ 40 * 7; decide⟩
theorem rm_7_4_6 {mc ms : Nat} : 4 + 1 ≤ (RM 7 mc ms).frames ∧ 8 + (6 + 11) + 40 * 4 ≤ (RM 7 mc ms).locals := ⟨by show 4 + 1 ≤ 7; decide, by show 8 + (6 + 11) + 40 * 4 ≤ 40 * 7; decide⟩
theorem sm_9_10_11_12_13_14_15_20_21_18_19 {a0 a1 a2 a3 a4 a5 a6 a7 a8 a9 a10 a11 a12 a13 a14 a15 a16 a17 a18 a19 a20 a21 : Nat × va_E} {l : va_W} : ([9, 10, 11, 12, 13, 14, 15, 20, 21, 18, 19] : List Nat).map (fun i => (a0 :: a1 :: a2 :: a3 :: a4 :: a5 :: a6 :: a7 :: a8 :: a9 :: a10 :: a11 :: a12 :: a13 :: a14 :: a15 :: a16 :: a17 :: a18 :: a19 :: a20 :: a21 :: l : va_W)[i]?) = ([a9, a10, a11, a12, a13, a14, a15, a20, a21, a18, a19] : va_W).map some := rfl
theorem fm_9_10_11_12_13_14_15_20_21_18_19 {a0 a1 a2 a3 a4 a5 a6 a7 a8 a9 a10 a11 a12 a13 a14 a15 a16 a17 a18 a19 a20 a21 : Nat × va_E} {l : va_W} : ([9, 10, 11, 12, 13, 14, 15, 20, 21, 18, 19] : List Nat).filterMap (fun i => (a0 :: a1 :: a2 :: a3 :: a4 :: a5 :: a6 :: a7 :: a8 :: a9 :: a10 :: a11 :: a12 :: a13 :: a14 :: a15 :: a16 :: a17 :: a18 :: a19 :: a20 :: a21 :: l : va_W)[i]?) = ([a9, a10, a11, a12, a13, a14, a15, a20, a21, a18, a19] : va_W) := rfl
theorem nd_9_10_11_12_13_14_15_20_21_18_19 : va_nd [9, 10, 11, 12, 13, 14, 15, 20, 21, 18, 19] = true := by decide
theorem sm_6_8_15_22_23 {a0 a1 a2 a3 a4 a5 a6 a7 a8 a9 a10 a11 a12 a13 a14 a15 a16 a17 a18 a19 a20 a21 a22 a23 : Nat × va_E} {l : va_W} : ([6, 8, 15, 22, 23] : List Nat).map (fun i => (a0 :: a1 :: a2 :: a3 :: a4 :: a5 :: a6 :: a7 :: a8 :: a9 :: a10 :: a11 :: a12 :: a13 :: a14 :: a15 :: a16 :: a17 :: a18 :: a19 :: a20 :: a21 :: a22 :: a23 :: l : va_W)[i]?) = ([a6, a8, a15, a22, a23] : va_W).map some := rfl
theorem fm_6_8_15_22_23 {a0 a1 a2 a3 a4 a5 a6 a7 a8 a9 a10 a11 a12 a13 a14 a15 a16 a17 a18 a19 a20 a21 a22 a23 : Nat × va_E} {l : va_W} : ([6, 8, 15, 22, 23] : List Nat).filterMap (fun i => (a0 :: a1 :: a2 :: a3 :: a4 :: a5 :: a6 :: a7 :: a8 :: a9 :: a10 :: a11 :: a12 :: a13 :: a14 :: a15 :: a16 :: a17 :: a18 :: a19 :: a20 :: a21 :: a22 :: a23 :: l : va_W)[i]?) = ([a6, a8, a15, a22, a23] : va_W) := rfl
theorem nd_6_8_15_22_23 : va_nd [6, 8, 15, 22, 23] = true := by decide
theorem sm_26_27 {a0 a1 a2 a3 a4 a5 a6 a7 a8 a9 a10 a11 a12 a13 a14 a15 a16 a17 a18 a19 a20 a21 a22 a23 a24 a25 a26 a27 : Nat × va_E} {l : va_W} : ([26, 27] : List Nat).map (fun i => (a0 :: a1 :: a2 :: a3 :: a4 :: a5 :: a6 :: a7 :: a8 :: a9 :: a10 :: a11 :: a12 :: a13 :: a14 :: a15 :: a16 :: a17 :: a18 :: a19 :: a20 :: a21 :: a22 :: a23 :: a24 :: a25 :: a26 :: a27 :: l : va_W)[i]?) = ([a26, a27] : va_W).map some := rfl
theorem fm_26_27 {a0 a1 a2 a3 a4 a5 a6 a7 a8 a9 a10 a11 a12 a13 a14 a15 a16 a17 a18 a19 a20 a21 a22 a23 a24 a25 a26 a27 : Nat × va_E} {l : va_W} : ([26, 27] : List Nat).filterMap (fun i => (a0 :: a1 :: a2 :: a3 :: a4 :: a5 :: a6 :: a7 :: a8 :: a9 :: a10 :: a11 :: a12 :: a13 :: a14 :: a15 :: a16 :: a17 :: a18 :: a19 :: a20 :: a21 :: a22 :: a23 :: a24 :: a25 :: a26 :: a27 :: l : va_W)[i]?) = ([a26, a27] : va_W) := rfl
theorem nd_26_27 : va_nd [26, 27] = true := by decide
theorem dj_0_1_2_3_4_5_6_7_8_9_10_11_12_13_14_15_16_17_18_19_20_21_22_23_24_25__26_27 : ∀ i ∈ ([26, 27] : List Nat), i ∉ ([0, 1, 2, 3, 4, 5, 6, 7, 8, 9, 10, 11, 12, 13, 14, 15, 16, 17, 18, 19, 20, 21, 22, 23, 24, 25] : List Nat) := by decide
theorem rm_8_7_6 {mc ms : Nat} : 7 + 1 ≤ (RM 8 mc ms).frames ∧ 8 + (6 + 11) + 40 * 7 ≤ (RM 8 mc ms).locals := ⟨by show 7 + 1 ≤ 8; decide, by show 8 + (6 + 11) + 40 * 7 ≤ 40 * 8; decide⟩
theorem sm_0_1_2_3_4_5_6_7_8_9_10_11_12_13_14_15_16_17_18_19_20_21_22_23_24_25_26_27 {a0 a1 a2 a3 a4 a5 a6 a7 a8 a9 a10 a11 a12 a13 a14 a15 a16 a17 a18 a19 a20 a21 a22 a23 a24 a25 a26 a27 : Nat × va_E} {l : va_W} : ([0, 1, 2, 3, 4, 5, 6, 7, 8, 9, 10, 11, 12, 13, 14, 15, 16, 17, 18, 19, 20, 21, 22, 23, 24, 25, 26, 27] : List Nat).map (fun i => (a0 :: a1 :: a2 :: a3 :: a4 :: a5 :: a6 :: a7 :: a8 :: a9 :: a10 :: a11 :: a12 :: a13 :: a14 :: a15 :: a16 :: a17 :: a18 :: a19 :: a20 :: a21 :: a22 :: a23 :: a24 :: a25 :: a26 :: a27 :: l : va_W)[i]?) = ([a0, a1, a2, a3, a4, a5, a6, a7, a8, a9, a10, a11, a12, a13, a14, a15, a16, a17, a18, a19, a20, a21, a22, a23, a24, a25, a26, a27] : va_W).map some := rfl
theorem fm_0_1_2_3_4_5_6_7_8_9_10_11_12_13_14_15_16_17_18_19_20_21_22_23_24_25_26_27 {a0 a1 a2 a3 a4 a5 a6 a7 a8 a9 a10 a11 a12 a13 a14 a15 a16 a17 a18 a19 a20 a21 a22 a23 a24 a25 a26 a27 : Nat × va_E} {l : va_W} : ([0, 1, 2, 3, 4, 5, 6, 7, 8, 9, 10, 11, 12, 13, 14, 15, 16, 17, 18, 19, 20, 21, 22, 23, 24, 25, 26, 27] : List Nat).filterMap (fun i => (a0 :: a1 :: a2 :: a3 :: a4 :: a5 :: a6 :: a7 :: a8 :: a9 :: a10 :: a11 :: a12 :: a13 :: a14 :: a15 :: a16 :: a17 :: a18 :: a19 :: a20 :: a21 :: a22 :: a23 :: a24 :: a25 :: a26 :: a27 :: l : va_W)[i]?) = ([a0, a1, a2, a3, a4, a5, a6, a7, a8, a9, a10, a11, a12, a13, a14, a15, a16, a17, a18, a19, a20, a21, a22, a23, a24, a25, a26, a27] : va_W) := rfl
theorem nd_0_1_2_3_4_5_6_7_8_9_10_11_12_13_14_15_16_17_18_19_20_21_22_23_24_25_26_27 : va_nd [0, 1, 2, 3, 4, 5, 6, 7, 8, 9, 10, 11, 12, 13, 14, 15, 16, 17, 18, 19, 20, 21, 22, 23, 24, 25, 26, 27] = true := by decide
theorem rm_8_1_1 {mc ms : Nat} : 1 + 1 ≤ (RM 8 mc ms).frames ∧ 8 + (1 + 11) + 40 * 1 ≤ (RM 8 mc ms).locals := ⟨by show 1 + 1 ≤ 8; decide, by show 8 + (1 + 11) + 40 * 1 ≤ 40 * 8; decide⟩
theorem sm_18 {a0 a1 a2 a3 a4 a5 a6 a7 a8 a9 a10 a11 a12 a13 a14 a15 a16 a17 a18 : Nat × va_E} {l : va_W} : ([18] : List Nat).map (fun i => (a0 :: a1 :: a2 :: a3 :: a4 :: a5 :: a6 :: a7 :: a8 :: a9 :: a10 :: a11 :: a12 :: a13 :: a14 :: a15 :: a16 :: a17 :: a18 :: l : va_W)[i]?) = ([a18] : va_W).map some := rfl
theorem fm_18 {a0 a1 a2 a3 a4 a5 a6 a7 a8 a9 a10 a11 a12 a13 a14 a15 a16 a17 a18 : Nat × va_E} {l : va_W} : ([18] : List Nat).filterMap (fun i => (a0 :: a1 :: a2 :: a3 :: a4 :: a5 :: a6 :: a7 :: a8 :: a9 :: a10 :: a11 :: a12 :: a13 :: a14 :: a15 :: a16 :: a17 :: a18 :: l : va_W)[i]?) = ([a18] : va_W) := rfl
theorem nd_18 : va_nd [18] = true := by decide
theorem rm_8_1_2 {mc ms : Nat} : 1 + 1 ≤ (RM 8 mc ms).frames ∧ 8 + (2 + 11) + 40 * 1 ≤ (RM 8 mc ms).locals := ⟨by show 1 + 1 ≤ 8; decide, by show 8 + (2 + 11) + 40 * 1 ≤ 40 * 8; decide⟩
theorem sm_26 {a0 a1 a2 a3 a4 a5 a6 a7 a8 a9 a10 a11 a12 a13 a14 a15 a16 a17 a18 a19 a20 a21 a22 a23 a24 a25 a26 : Nat × va_E} {l : va_W} : ([26] : List Nat).map (fun i => (a0 :: a1 :: a2 :: a3 :: a4 :: a5 :: a6 :: a7 :: a8 :: a9 :: a10 :: a11 :: a12 :: a13 :: a14 :: a15 :: a16 :: a17 :: a18 :: a19 :: a20 :: a21 :: a22 :: a23 :: a24 :: a25 :: a26 :: l : va_W)[i]?) = ([a26] : va_W).map some := rfl
theorem fm_26 {a0 a1 a2 a3 a4 a5 a6 a7 a8 a9 a10 a11 a12 a13 a14 a15 a16 a17 a18 a19 a20 a21 a22 a23 a24 a25 a26 : Nat × va_E} {l : va_W} : ([26] : List Nat).filterMap (fun i => (a0 :: a1 :: a2 :: a3 :: a4 :: a5 :: a6 :: a7 :: a8 :: a9 :: a10 :: a11 :: a12 :: a13 :: a14 :: a15 :: a16 :: a17 :: a18 :: a19 :: a20 :: a21 :: a22 :: a23 :: a24 :: a25 :: a26 :: l : va_W)[i]?) = ([a26] : va_W) := rfl
theorem nd_26 : va_nd [26] = true := by decide
theorem sm_15_16 {a0 a1 a2 a3 a4 a5 a6 a7 a8 a9 a10 a11 a12 a13 a14 a15 a16 : Nat × va_E} {l : va_W} : ([15, 16] : List Nat).map (fun i => (a0 :: a1 :: a2 :: a3 :: a4 :: a5 :: a6 :: a7 :: a8 :: a9 :: a10 :: a11 :: a12 :: a13 :: a14 :: a15 :: a16 :: l : va_W)[i]?) = ([a15, a16] : va_W).map some := rfl
theorem fm_15_16 {a0 a1 a2 a3 a4 a5 a6 a7 a8 a9 a10 a11 a12 a13 a14 a15 a16 : Nat × va_E} {l : va_W} : ([15, 16] : List Nat).filterMap (fun i => (a0 :: a1 :: a2 :: a3 :: a4 :: a5 :: a6 :: a7 :: a8 :: a9 :: a10 :: a11 :: a12 :: a13 :: a14 :: a15 :: a16 :: l : va_W)[i]?) = ([a15, a16] : va_W) := rfl
theorem nd_15_16 : va_nd [15, 16] = true := by decide
theorem rm_7_4_5 {mc ms : Nat} : 4 + 1 ≤ (RM 7 mc ms).frames ∧ 8 + (5 + 11) + 40 * 4 ≤ (RM 7 mc ms).locals := ⟨by show 4 + 1 ≤ 7; decide, by show 8 + (5 + 11) + 40 * 4 ≤ 40 * 7; decide⟩
theorem sm_1_2_4_5_6_7_8_9_10_11_12_13_14 {a0 a1 a2 a3 a4 a5 a6 a7 a8 a9 a10 a11 a12 a13 a14 : Nat × va_E} {l : va_W} : ([1, 2, 4, 5, 6, 7, 8, 9, 10, 11, 12, 13, 14] : List Nat).map (fun i => (a0 :: a1 :: a2 :: a3 :: a4 :: a5 :: a6 :: a7 :: a8 :: a9 :: a10 :: a11 :: a12 :: a13 :: a14 :: l : va_W)[i]?) = ([a1, a2, a4, a5, a6, a7, a8, a9, a10, a11, a12, a13, a14] : va_W).map some := rfl
theorem fm_1_2_4_5_6_7_8_9_10_11_12_13_14 {a0 a1 a2 a3 a4 a5 a6 a7 a8 a9 a10 a11 a12 a13 a14 : Nat × va_E} {l : va_W} : ([1, 2, 4, 5, 6, 7, 8, 9, 10, 11, 12, 13, 14] : List Nat).filterMap (fun i => (a0 :: a1 :: a2 :: a3 :: a4 :: a5 :: a6 :: a7 :: a8 :: a9 :: a10 :: a11 :: a12 :: a13 :: a14 :: l : va_W)[i]?) = ([a1, a2, a4, a5, a6, a7, a8, a9, a10, a11, a12, a13, a14] : va_W) := rfl
theorem nd_1_2_4_5_6_7_8_9_10_11_12_13_14 : va_nd [1, 2, 4, 5, 6, 7, 8, 9, 10, 11, 12, 13, 14] = true := by decide
theorem sm_0_3_15_16_17_18_19_20 {a0 a1 a2 a3 a4 a5 a6 a7 a8 a9 a10 a11 a12 a13 a14 a15 a16 a17 a18 a19 a20 : Nat × va_E} {l : va_W} : ([0, 3, 15, 16, 17, 18, 19, 20] : List Nat).map (fun i => (a0 :: a1 :: a2 :: a3 :: a4 :: a5 :: a6 :: a7 :: a8 :: a9 :: a10 :: a11 :: a12 :: a13 :: a14 :: a15 :: a16 :: a17 :: a18 :: a19 :: a20 :: l : va_W)[i]?) = ([a0, a3, a15, a16, a17, a18, a19, a20] : va_W).map some := rfl
theorem nd_0_3_15_16_17_18_19_20 : va_nd [0, 3, 15, 16, 17, 18, 19, 20] = true := by decide
theorem dj_1_2_4_5_6_7_8_9_10_11_12_13_14__0_3_15_16_17_18_19_20 : ∀ i ∈ ([0, 3, 15, 16, 17, 18, 19, 20] : List Nat), i ∉ ([1, 2, 4, 5, 6, 7, 8, 9, 10, 11, 12, 13, 14] : List Nat) := by decide
theorem sm_10_4_5 {a0 a1 a2 a3 a4 a5 a6 a7 a8 a9 a10 : Nat × va_E} {l : va_W} : ([10, 4, 5] : List Nat).map (fun i => (a0 :: a1 :: a2 :: a3 :: a4 :: a5 :: a6 :: a7 :: a8 :: a9 :: a10 :: l : va_W)[i]?) = ([a10, a4, a5] : va_W).map some := rfl
theorem fm_10_4_5 {a0 a1 a2 a3 a4 a5 a6 a7 a8 a9 a10 : Nat × va_E} {l : va_W} : ([10, 4, 5] : List Nat).filterMap (fun i => (a0 :: a1 :: a2 :: a3 :: a4 :: a5 :: a6 :: a7 :: a8 :: a9 :: a10 :: l : va_W)[i]?) = ([a10, a4, a5] : va_W) := rfl
theorem nd_10_4_5 : va_nd [10, 4, 5] = true := by decide
theorem sm_8_10_17_18 {a0 a1 a2 a3 a4 a5 a6 a7 a8 a9 a10 a11 a12 a13 a14 a15 a16 a17 a18 : Nat × va_E} {l : va_W} : ([8, 10, 17, 18] : List Nat).map (fun i => (a0 :: a1 :: a2 :: a3 :: a4 :: a5 :: a6 :: a7 :: a8 :: a9 :: a10 :: a11 :: a12 :: a13 :: a14 :: a15 :: a16 :: a17 :: a18 :: l : va_W)[i]?) = ([a8, a10, a17, a18] : va_W).map some := rfl
theorem fm_8_10_17_18 {a0 a1 a2 a3 a4 a5 a6 a7 a8 a9 a10 a11 a12 a13 a14 a15 a16 a17 a18 : Nat × va_E} {l : va_W} : ([8, 10, 17, 18] : List Nat).filterMap (fun i => (a0 :: a1 :: a2 :: a3 :: a4 :: a5 :: a6 :: a7 :: a8 :: a9 :: a10 :: a11 :: a12 :: a13 :: a14 :: a15 :: a16 :: a17 :: a18 :: l : va_W)[i]?) = ([a8, a10, a17, a18] : va_W) := rfl
theorem nd_8_10_17_18 : va_nd [8, 10, 17, 18] = true := by decide
theorem sm_10 {a0 a1 a2 a3 a4 a5 a6 a7 a8 a9 a10 : Nat × va_E} {l : va_W} : ([10] : List Nat).map (fun i => (a0 :: a1 :: a2 :: a3 :: a4 :: a5 :: a6 :: a7 :: a8 :: a9 :: a10 :: l : va_W)[i]?) = ([a10] : va_W).map some := rfl
theorem fm_10 {a0 a1 a2 a3 a4 a5 a6 a7 a8 a9 a10 : Nat × va_E} {l : va_W} : ([10] : List Nat).filterMap (fun i => (a0 :: a1 :: a2 :: a3 :: a4 :: a5 :: a6 :: a7 :: a8 :: a9 :: a10 :: l : va_W)[i]?) = ([a10] : va_W) := rfl
theorem nd_10 : va_nd [10] = true := by decide
theorem rm_7_3_5 {mc ms : Nat} : 3 + 1 ≤ (RM 7 mc ms).frames ∧ 8 + (5 + 11) + 40 * 3 ≤ (RM 7 mc ms).locals := ⟨by show 3 + 1 ≤ 7; decide, by show 8 + (5 + 11) + 40 * 3 ≤ 40 * 7; decide⟩
theorem sm_10_6_7 {a0 a1 a2 a3 a4 a5 a6 a7 a8 a9 a10 : Nat × va_E} {l : va_W} : ([10, 6, 7] : List Nat).map (fun i => (a0 :: a1 :: a2 :: a3 :: a4 :: a5 :: a6 :: a7 :: a8 :: a9 :: a10 :: l : va_W)[i]?) = ([a10, a6, a7] : va_W).map some := rfl
theorem fm_10_6_7 {a0 a1 a2 a3 a4 a5 a6 a7 a8 a9 a10 : Nat × va_E} {l : va_W} : ([10, 6, 7] : List Nat).filterMap (fun i => (a0 :: a1 :: a2 :: a3 :: a4 :: a5 :: a6 :: a7 :: a8 :: a9 :: a10 :: l : va_W)[i]?) = ([a10, a6, a7] : va_W) := rfl
theorem nd_10_6_7 : va_nd [10, 6, 7] = true := by decide
theorem rm_9_1_2 {mc ms : Nat} : 1 + 1 ≤ (RM 9 mc ms).frames ∧ 8 + (2 + 11) + 40 * 1 ≤ (RM 9 mc ms).locals := ⟨by show 1 + 1 ≤ 9; decide, by show 8 + (2 + 11) + 40 * 1 ≤ 40 * 9; decide⟩
theorem rm_9_3_6 {mc ms : Nat} : 3 + 1 ≤ (RM 9 mc ms).frames ∧ 8 + (6 + 11) + 40 * 3 ≤ (RM 9 mc ms).locals := ⟨by show 3 + 1 ≤ 9; decide, by show 8 + (6 + 11) + 40 * 3 ≤ 40 * 9; decide⟩
theorem rm_9_1_3 {mc ms : Nat} : 1 + 1 ≤ (RM 9 mc ms).frames ∧ 8 + (3 + 11) + 40 * 1 ≤ (RM 9 mc ms).locals := ⟨by show 1 + 1 ≤ 9; decide, by show 8 + (3 + 11) + 40 * 1 ≤ 40 * 9; decide⟩
theorem rm_9_7_6 {mc ms : Nat} : 7 + 1 ≤ (RM 9 mc ms).frames ∧ 8 + (6 + 11) + 40 * 7 ≤ (RM 9 mc ms).locals := ⟨by show 7 + 1 ≤ 9; decide, by show 8 + (6 + 11) + 40 * 7 ≤ 40 * 9; decide⟩
theorem sm_28_29_30_31 {a0 a1 a2 a3 a4 a5 a6 a7 a8 a9 a10 a11 a12 a13 a14 a15 a16 a17 a18 a19 a20 a21 a22 a23 a24 a25 a26 a27 a28 a29 a30 a31 : Nat × va_E} {l : va_W} : ([28, 29, 30, 31] : List Nat).map (fun i => (a0 :: a1 :: a2 :: a3 :: a4 :: a5 :: a6 :: a7 :: a8 :: a9 :: a10 :: a11 :: a12 :: a13 :: a14 :: a15 :: a16 :: a17 :: a18 :: a19 :: a20 :: a21 :: a22 :: a23 :: a24 :: a25 :: a26 :: a27 :: a28 :: a29 :: a30 :: a31 :: l : va_W)[i]?) = ([a28, a29, a30, a31] : va_W).map some := rfl
theorem nd_28_29_30_31 : va_nd [28, 29, 30, 31] = true := by decide
theorem dj_0_1_2_3_4_5_6_7_8_9_10_11_12_13_14_15_16_17_18_19_20_21_22_23_24_25_26_27__28_29_30_31 : ∀ i ∈ ([28, 29, 30, 31] : List Nat), i ∉ ([0, 1, 2, 3, 4, 5, 6, 7, 8, 9, 10, 11, 12, 13, 14, 15, 16, 17, 18, 19, 20, 21, 22, 23, 24, 25, 26, 27] : List Nat) := by decide
theorem rm_9_8_5 {mc ms : Nat} : 8 + 1 ≤ (RM 9 mc ms).frames ∧ 8 + (5 + 11) + 40 * 8 ≤ (RM 9 mc ms).locals := ⟨by show 8 + 1 ≤ 9; decide, by show 8 + (5 + 11) + 40 * 8 ≤ 40 * 9; decide⟩
theorem rm_9_7_7 {mc ms : Nat} : 7 + 1 ≤ (RM 9 mc ms).frames ∧ 8 + (7 + 11) + 40 * 7 ≤ (RM 9 mc ms).locals := ⟨by show 7 + 1 ≤ 9; decide, by show 8 + (7 + 11) + 40 * 7 ≤ 40 * 9; decide⟩
theorem sm_4_14_15_16_17_18_19_20_21_22_23_24_25_26_27_30_31_0_1_2_3 {a0 a1 a2 a3 a4 a5 a6 a7 a8 a9 a10 a11 a12 a13 a14 a15 a16 a17 a18 a19 a20 a21 a22 a23 a24 a25 a26 a27 a28 a29 a30 a31 : Nat × va_E} {l : va_W} : ([4, 14, 15, 16, 17, 18, 19, 20, 21, 22, 23, 24, 25, 26, 27, 30, 31, 0, 1, 2, 3] : List Nat).map (fun i => (a0 :: a1 :: a2 :: a3 :: a4 :: a5 :: a6 :: a7 :: a8 :: a9 :: a10 :: a11 :: a12 :: a13 :: a14 :: a15 :: a16 :: a17 :: a18 :: a19 :: a20 :: a21 :: a22 :: a23 :: a24 :: a25 :: a26 :: a27 :: a28 :: a29 :: a30 :: a31 :: l : va_W)[i]?) = ([a4, a14, a15, a16, a17, a18, a19, a20, a21, a22, a23, a24, a25, a26, a27, a30, a31, a0, a1, a2, a3] : va_W).map some := rfl
theorem fm_4_14_15_16_17_18_19_20_21_22_23_24_25_26_27_30_31_0_1_2_3 {a0 a1 a2 a3 a4 a5 a6 a7 a8 a9 a10 a11 a12 a13 a14 a15 a16 a17 a18 a19 a20 a21 a22 a23 a24 a25 a26 a27 a28 a29 a30 a31 : Nat × va_E} {l : va_W} : ([4, 14, 15, 16, 17, 18, 19, 20, 21, 22, 23, 24, 25, 26, 27, 30, 31, 0, 1, 2, 3] : List Nat).filterMap (fun i => (a0 :: a1 :: a2 :: a3 :: a4 :: a5 :: a6 :: a7 :: a8 :: a9 :: a10 :: a11 :: a12 :: a13 :: a14 :: a15 :: a16 :: a17 :: a18 :: a19 :: a20 :: a21 :: a22 :: a23 :: a24 :: a25 :: a26 :: a27 :: a28 :: a29 :: a30 :: a31 :: l : va_W)[i]?) = ([a4, a14, a15, a16, a17, a18, a19, a20, a21, a22, a23, a24, a25, a26, a27, a30, a31, a0, a1, a2, a3] : va_W) := rfl
theorem nd_4_14_15_16_17_18_19_20_21_22_23_24_25_26_27_30_31_0_1_2_3 : va_nd [4, 14, 15, 16, 17, 18, 19, 20, 21, 22, 23, 24, 25, 26, 27, 30, 31, 0, 1, 2, 3] = true := by decide
theorem sm_5_6_7_8_9_10_11_12_13_28_29 {a0 a1 a2 a3 a4 a5 a6 a7 a8 a9 a10 a11 a12 a13 a14 a15 a16 a17 a18 a19 a20 a21 a22 a23 a24 a25 a26 a27 a28 a29 : Nat × va_E} {l : va_W} : ([5, 6, 7, 8, 9, 10, 11, 12, 13, 28, 29] : List Nat).map (fun i => (a0 :: a1 :: a2 :: a3 :: a4 :: a5 :: a6 :: a7 :: a8 :: a9 :: a10 :: a11 :: a12 :: a13 :: a14 :: a15 :: a16 :: a17 :: a18 :: a19 :: a20 :: a21 :: a22 :: a23 :: a24 :: a25 :: a26 :: a27 :: a28 :: a29 :: l : va_W)[i]?) = ([a5, a6, a7, a8, a9, a10, a11, a12, a13, a28, a29] : va_W).map some := rfl
theorem nd_5_6_7_8_9_10_11_12_13_28_29 : va_nd [5, 6, 7, 8, 9, 10, 11, 12, 13, 28, 29] = true := by decide
theorem dj_4_14_15_16_17_18_19_20_21_22_23_24_25_26_27_30_31_0_1_2_3__5_6_7_8_9_10_11_12_13_28_29 : ∀ i ∈ ([5, 6, 7, 8, 9, 10, 11, 12, 13, 28, 29] : List Nat), i ∉ ([4, 14, 15, 16, 17, 18, 19, 20, 21, 22, 23, 24, 25, 26, 27, 30, 31, 0, 1, 2, 3] : List Nat) := by decide
theorem sm_14 {a0 a1 a2 a3 a4 a5 a6 a7 a8 a9 a10 a11 a12 a13 a14 : Nat × va_E} {l : va_W} : ([14] : List Nat).map (fun i => (a0 :: a1 :: a2 :: a3 :: a4 :: a5 :: a6 :: a7 :: a8 :: a9 :: a10 :: a11 :: a12 :: a13 :: a14 :: l : va_W)[i]?) = ([a14] : va_W).map some := rfl
theorem fm_14 {a0 a1 a2 a3 a4 a5 a6 a7 a8 a9 a10 a11 a12 a13 a14 : Nat × va_E} {l : va_W} : ([14] : List Nat).filterMap (fun i => (a0 :: a1 :: a2 :: a3 :: a4 :: a5 :: a6 :: a7 :: a8 :: a9 :: a10 :: a11 :: a12 :: a13 :: a14 :: l : va_W)[i]?) = ([a14] : va_W) := rfl
theorem nd_14 : va_nd [14] = true := by decide
theorem rm_8_1_3 {mc ms : Nat} : 1 + 1 ≤ (RM 8 mc ms).frames ∧ 8 + (3 + 11) + 40 * 1 ≤ (RM 8 mc ms).locals := ⟨by show 1 + 1 ≤ 8; decide, by show 8 + (3 + 11) + 40 * 1 ≤ 40 * 8; decide⟩
theorem rm_8_3_6 {mc ms : Nat} : 3 + 1 ≤ (RM 8 mc ms).frames ∧ 8 + (6 + 11) + 40 * 3 ≤ (RM 8 mc ms).locals := ⟨by show 3 + 1 ≤ 8; decide, by show 8 + (6 + 11) + 40 * 3 ≤ 40 * 8; decide⟩
theorem sm_11_12_13 {a0 a1 a2 a3 a4 a5 a6 a7 a8 a9 a10 a11 a12 a13 : Nat × va_E} {l : va_W} : ([11, 12, 13] : List Nat).map (fun i => (a0 :: a1 :: a2 :: a3 :: a4 :: a5 :: a6 :: a7 :: a8 :: a9 :: a10 :: a11 :: a12 :: a13 :: l : va_W)[i]?) = ([a11, a12, a13] : va_W).map some := rfl
theorem fm_11_12_13 {a0 a1 a2 a3 a4 a5 a6 a7 a8 a9 a10 a11 a12 a13 : Nat × va_E} {l : va_W} : ([11, 12, 13] : List Nat).filterMap (fun i => (a0 :: a1 :: a2 :: a3 :: a4 :: a5 :: a6 :: a7 :: a8 :: a9 :: a10 :: a11 :: a12 :: a13 :: l : va_W)[i]?) = ([a11, a12, a13] : va_W) := rfl
theorem nd_11_12_13 : va_nd [11, 12, 13] = true := by decide
theorem rm_8_5_4 {mc ms : Nat} : 5 + 1 ≤ (RM 8 mc ms).frames ∧ 8 + (4 + 11) + 40 * 5 ≤ (RM 8 mc ms).locals := ⟨by show 5 + 1 ≤ 8; decide, by show 8 + (4 + 11) + 40 * 5 ≤ 40 * 8; decide⟩
theorem sm_1_2_3_4_5_6_7_8_9_11_18_19 {a0 a1 a2 a3 a4 a5 a6 a7 a8 a9 a10 a11 a12 a13 a14 a15 a16 a17 a18 a19 : Nat × va_E} {l : va_W} : ([1, 2, 3, 4, 5, 6, 7, 8, 9, 11, 18, 19] : List Nat).map (fun i => (a0 :: a1 :: a2 :: a3 :: a4 :: a5 :: a6 :: a7 :: a8 :: a9 :: a10 :: a11 :: a12 :: a13 :: a14 :: a15 :: a16 :: a17 :: a18 :: a19 :: l : va_W)[i]?) = ([a1, a2, a3, a4, a5, a6, a7, a8, a9, a11, a18, a19] : va_W).map some := rfl
theorem fm_1_2_3_4_5_6_7_8_9_11_18_19 {a0 a1 a2 a3 a4 a5 a6 a7 a8 a9 a10 a11 a12 a13 a14 a15 a16 a17 a18 a19 : Nat × va_E} {l : va_W} : ([1, 2, 3, 4, 5, 6, 7, 8, 9, 11, 18, 19] : List Nat).filterMap (fun i => (a0 :: a1 :: a2 :: a3 :: a4 :: a5 :: a6 :: a7 :: a8 :: a9 :: a10 :: a11 :: a12 :: a13 :: a14 :: a15 :: a16 :: a17 :: a18 :: a19 :: l : va_W)[i]?) = ([a1, a2, a3, a4, a5, a6, a7, a8, a9, a11, a18, a19] : va_W) := rfl
theorem nd_1_2_3_4_5_6_7_8_9_11_18_19 : va_nd [1, 2, 3, 4, 5, 6, 7, 8, 9, 11, 18, 19] = true := by decide
theorem sm_0_10_12_13_14_15_16_17 {a0 a1 a2 a3 a4 a5 a6 a7 a8 a9 a10 a11 a12 a13 a14 a15 a16 a17 : Nat × va_E} {l : va_W} : ([0, 10, 12, 13, 14, 15, 16, 17] : List Nat).map (fun i => (a0 :: a1 :: a2 :: a3 :: a4 :: a5 :: a6 :: a7 :: a8 :: a9 :: a10 :: a11 :: a12 :: a13 :: a14 :: a15 :: a16 :: a17 :: l : va_W)[i]?) = ([a0, a10, a12, a13, a14, a15, a16, a17] : va_W).map some := rfl
theorem nd_0_10_12_13_14_15_16_17 : va_nd [0, 10, 12, 13, 14, 15, 16, 17] = true := by decide
theorem dj_1_2_3_4_5_6_7_8_9_11_18_19__0_10_12_13_14_15_16_17 : ∀ i ∈ ([0, 10, 12, 13, 14, 15, 16, 17] : List Nat), i ∉ ([1, 2, 3, 4, 5, 6, 7, 8, 9, 11, 18, 19] : List Nat) := by decide
theorem rm_8_6_7 {mc ms : Nat} : 6 + 1 ≤ (RM 8 mc ms).frames ∧ 8 + (7 + 11) + 40 * 6 ≤ (RM 8 mc ms).locals := ⟨by show 6 + 1 ≤ 8; decide, by show 8 + (7 + 11) + 40 * 6 ≤ 40 * 8; decide⟩
theorem sm_1_8_12_13_14_15_16_17_2_3_4_5_6_7 {a0 a1 a2 a3 a4 a5 a6 a7 a8 a9 a10 a11 a12 a13 a14 a15 a16 a17 : Nat × va_E} {l : va_W} : ([1, 8, 12, 13, 14, 15, 16, 17, 2, 3, 4, 5, 6, 7] : List Nat).map (fun i => (a0 :: a1 :: a2 :: a3 :: a4 :: a5 :: a6 :: a7 :: a8 :: a9 :: a10 :: a11 :: a12 :: a13 :: a14 :: a15 :: a16 :: a17 :: l : va_W)[i]?) = ([a1, a8, a12, a13, a14, a15, a16, a17, a2, a3, a4, a5, a6, a7] : va_W).map some := rfl
theorem fm_1_8_12_13_14_15_16_17_2_3_4_5_6_7 {a0 a1 a2 a3 a4 a5 a6 a7 a8 a9 a10 a11 a12 a13 a14 a15 a16 a17 : Nat × va_E} {l : va_W} : ([1, 8, 12, 13, 14, 15, 16, 17, 2, 3, 4, 5, 6, 7] : List Nat).filterMap (fun i => (a0 :: a1 :: a2 :: a3 :: a4 :: a5 :: a6 :: a7 :: a8 :: a9 :: a10 :: a11 :: a12 :: a13 :: a14 :: a15 :: a16 :: a17 :: l : va_W)[i]?) = ([a1, a8, a12, a13, a14, a15, a16, a17, a2, a3, a4, a5, a6, a7] : va_W) := rfl
theorem nd_1_8_12_13_14_15_16_17_2_3_4_5_6_7 : va_nd [1, 8, 12, 13, 14, 15, 16, 17, 2, 3, 4, 5, 6, 7] = true := by decide
theorem sm_0_9_10_11_18_19 {a0 a1 a2 a3 a4 a5 a6 a7 a8 a9 a10 a11 a12 a13 a14 a15 a16 a17 a18 a19 : Nat × va_E} {l : va_W} : ([0, 9, 10, 11, 18, 19] : List Nat).map (fun i => (a0 :: a1 :: a2 :: a3 :: a4 :: a5 :: a6 :: a7 :: a8 :: a9 :: a10 :: a11 :: a12 :: a13 :: a14 :: a15 :: a16 :: a17 :: a18 :: a19 :: l : va_W)[i]?) = ([a0, a9, a10, a11, a18, a19] : va_W).map some := rfl
theorem nd_0_9_10_11_18_19 : va_nd [0, 9, 10, 11, 18, 19] = true := by decide
theorem dj_1_8_12_13_14_15_16_17_2_3_4_5_6_7__0_9_10_11_18_19 : ∀ i ∈ ([0, 9, 10, 11, 18, 19] : List Nat), i ∉ ([1, 8, 12, 13, 14, 15, 16, 17, 2, 3, 4, 5, 6, 7] : List Nat) := by decide
theorem sm_7_12_13_8_9 {a0 a1 a2 a3 a4 a5 a6 a7 a8 a9 a10 a11 a12 a13 : Nat × va_E} {l : va_W} : ([7, 12, 13, 8, 9] : List Nat).map (fun i => (a0 :: a1 :: a2 :: a3 :: a4 :: a5 :: a6 :: a7 :: a8 :: a9 :: a10 :: a11 :: a12 :: a13 :: l : va_W)[i]?) = ([a7, a12, a13, a8, a9] : va_W).map some := rfl
theorem fm_7_12_13_8_9 {a0 a1 a2 a3 a4 a5 a6 a7 a8 a9 a10 a11 a12 a13 : Nat × va_E} {l : va_W} : ([7, 12, 13, 8, 9] : List Nat).filterMap (fun i => (a0 :: a1 :: a2 :: a3 :: a4 :: a5 :: a6 :: a7 :: a8 :: a9 :: a10 :: a11 :: a12 :: a13 :: l : va_W)[i]?) = ([a7, a12, a13, a8, a9] : va_W) := rfl
theorem nd_7_12_13_8_9 : va_nd [7, 12, 13, 8, 9] = true := by decide
theorem sm_1_2_3_4_5 {a0 a1 a2 a3 a4 a5 : Nat × va_E} {l : va_W} : ([1, 2, 3, 4, 5] : List Nat).map (fun i => (a0 :: a1 :: a2 :: a3 :: a4 :: a5 :: l : va_W)[i]?) = ([a1, a2, a3, a4, a5] : va_W).map some := rfl
theorem fm_1_2_3_4_5 {a0 a1 a2 a3 a4 a5 : Nat × va_E} {l : va_W} : ([1, 2, 3, 4, 5] : List Nat).filterMap (fun i => (a0 :: a1 :: a2 :: a3 :: a4 :: a5 :: l : va_W)[i]?) = ([a1, a2, a3, a4, a5] : va_W) := rfl
theorem nd_1_2_3_4_5 : va_nd [1, 2, 3, 4, 5] = true := by decide
theorem fm_0_1_2_3_4_5 {a0 a1 a2 a3 a4 a5 : Nat × va_E} {l : va_W} : ([0, 1, 2, 3, 4, 5] : List Nat).filterMap (fun i => (a0 :: a1 :: a2 :: a3 :: a4 :: a5 :: l : va_W)[i]?) = ([a0, a1, a2, a3, a4, a5] : va_W) := rfl
theorem sm_2_9_0_1_10_11 {a0 a1 a2 a3 a4 a5 a6 a7 a8 a9 a10 a11 : Nat × va_E} {l : va_W} : ([2, 9, 0, 1, 10, 11] : List Nat).map (fun i => (a0 :: a1 :: a2 :: a3 :: a4 :: a5 :: a6 :: a7 :: a8 :: a9 :: a10 :: a11 :: l : va_W)[i]?) = ([a2, a9, a0, a1, a10, a11] : va_W).map some := rfl
theorem fm_2_9_0_1_10_11 {a0 a1 a2 a3 a4 a5 a6 a7 a8 a9 a10 a11 : Nat × va_E} {l : va_W} : ([2, 9, 0, 1, 10, 11] : List Nat).filterMap (fun i => (a0 :: a1 :: a2 :: a3 :: a4 :: a5 :: a6 :: a7 :: a8 :: a9 :: a10 :: a11 :: l : va_W)[i]?) = ([a2, a9, a0, a1, a10, a11] : va_W) := rfl
theorem nd_2_9_0_1_10_11 : va_nd [2, 9, 0, 1, 10, 11] = true := by decide
def K_c_Cl_copyX (l : Launch) (G : GG) (h0 : Nat) (h1 : Nat) (cm : Nat) (fm : Nat → Int32) (cn : Nat) (fn : Nat → Int32) : Prop := MV l G yX1_copy cX1_copy 2 2 0 0 [.ref h0, .ref h1] [(h0, oX1 cm), (cm, iA G 36 fm), (h1, oX1 cn), (cn, iA G 36 fn)] (fun u : (Nat → Int32) => ∀ j, j < 36 → u j = fn j) (fun u : (Nat → Int32) => [(h0, oX1 cm), (cm, iA G 36 u), (h1, oX1 cn), (cn, iA G 36 fn)])
set_option maxHeartbeats 4000000 in
set_option maxRecDepth 100000 in
theorem c_Cl_copyX (l : Launch) (G : GG) (h0 : Nat) (h1 : Nat) (cm : Nat) (fm : Nat → Int32) (cn : Nat) (fn : Nat → Int32) : K_c_Cl_copyX l G h0 h1 cm fm cn fn := by
  refine MV.start (by decide +kernel) (Nat.le_of_ble_eq_true rfl) ?_
  intro p e s m below meth c A ls hC hK hP hD hS hA hl
  refine absQ (fun Q0 hQ0 => ?_)
  have hl : lv_has ls 2 [(0, .ref h0), (1, .ref h1)] := hl
  refine Kan8 hC (fun hx hb hr hml hB hown hlocks hnm => ?_)
  refine lv_aload_n hx hb gX1_copy_0.1 rfl (lv_at1 hl) ?_
  refine gf_X1_9 hC rfl hK hP 2 rfl rfl gX1_copy_0.2.1 ?_
  refine lv_iconst (v := 0) hx hb gX1_copy_0.2.2.1 (by decide) ?_
  refine lv_aload_n hx hb gX1_copy_0.2.2.2.1 rfl (lv_at0 hl) ?_
  refine gf_X1_9 hC rfl hK hP 0 rfl rfl gX1_copy_0.2.2.2.2.1 ?_
  refine lv_iconst (v := 0) hx hb gX1_copy_0.2.2.2.2.2.1 (by decide) ?_
  refine lv_bipush (v := 36) hx hb gX1_copy_0.2.2.2.2.2.2.1 (by decide) ?_
  refine va_copyi hx hb (hml.trans hl.1.symm) hown (hB _ m_453) (hB _ m_455) (hB _ m_454) (hB _ m_117) hK.1 hP hD hS 3 1 0 0 rfl rfl rfl rfl rfl (by decide) (by decide) (by decide) (by decide +kernel) (by decide +kernel) (fun _ _ => rfl) (Nat.le_of_ble_eq_true rfl) (by decide +kernel) gX1_copy_0.2.2.2.2.2.2.2.1 (fun H locs hP hD hS => ?_)
  refine Kpdr (ws := [(h0, oX1 cm), (cm, iA G 36 (va_cpy fn fm 0 0 36)), (h1, oX1 cn), (cn, iA G 36 fn)]) hP hD (fun hP hD => ?_)
  refine toQ hQ0 ?_
  exact RV hC hP hD hS [0, 1, 2, 3] (va_cpy fn fm 0 0 36) rfl rfl (by decide) (cpyd _ _ _) gX1_copy_0.2.2.2.2.2.2.2.2
def K_c_isRightX (l : Launch) (G : GG) (K9 : Nat → Nat → Int → Prop) (h0 : Nat) (jp : Nat) (kx : Nat) (bb : Nat) (hd : Nat) (bo : Int32) (le : Int32) (bi : Int32) (bpersons : Nat) (bpapers : Nat) (bstamps : Nat) (bversions : Nat) (blines : Nat) (bsteps : Nat) (bsayings : Nat) (bfindings : Nat) (bwarnings : Nat) (bquestions : Nat) (td : Int32) (vd : Int32) (vl : Int32) (gp : Int32) (bstampsc : Nat) (kbstamps : Nat) (fbstamps : Nat → Int32) (ky : Nat) (fx : Nat → Int32) : Prop := MI l G yX3_isRight cX3_isRight 5 (some .boolean) 4 0 0 [.ref h0, .int (nI jp), .ref kx] [(h0, oX3 bb hd bo le bi), (bb, oX0 bpersons bpapers bstamps bversions blines bsteps bsayings bfindings bwarnings bquestions td vd vl gp), (bstamps, oX8 24 3 bstampsc (nI kbstamps)), (bstampsc, iA G 72 fbstamps), (kx, oX1 ky), (ky, iA G 36 fx)] (fun (r : Int32) (u : (Nat → Int32)) => ((r = 1 ∧ CLB (KSG K9 fbstamps (fun q9 => q9 = jp) gp.toInt kbstamps) (MAT u)) ∨ (r = 0 ∧ NOS (KSG K9 fbstamps (fun q9 => q9 = jp) gp.toInt kbstamps)))) (fun u : (Nat → Int32) => [(h0, oX3 bb hd bo le bi), (bb, oX0 bpersons bpapers bstamps bversions blines bsteps bsayings bfindings bwarnings bquestions td vd vl gp), (bstamps, oX8 24 3 bstampsc (nI kbstamps)), (bstampsc, iA G 72 fbstamps), (kx, oX1 ky), (ky, iA G 36 u)])
set_option maxHeartbeats 4000000 in
set_option maxRecDepth 100000 in
theorem c_isRightX (l : Launch) (G : GG) (K9 : Nat → Nat → Int → Prop) (h0 : Nat) (jp : Nat) (kx : Nat) (bb : Nat) (hd : Nat) (bo : Int32) (le : Int32) (bi : Int32) (bpersons : Nat) (bpapers : Nat) (bstamps : Nat) (bversions : Nat) (blines : Nat) (bsteps : Nat) (bsayings : Nat) (bfindings : Nat) (bwarnings : Nat) (bquestions : Nat) (td : Int32) (vd : Int32) (vl : Int32) (gp : Int32) (bstampsc : Nat) (kbstamps : Nat) (fbstamps : Nat → Int32) (ky : Nat) (fx : Nat → Int32) (hkbstamps : kbstamps ≤ 24) (hCB : CLB K9 (MAT fx)) (hSV : SVL fbstamps kbstamps) (hgp : GPR gp) (hjp : jp < 12) : K_c_isRightX l G K9 h0 jp kx bb hd bo le bi bpersons bpapers bstamps bversions blines bsteps bsayings bfindings bwarnings bquestions td vd vl gp bstampsc kbstamps fbstamps ky fx := by
  refine MI.start (by decide +kernel) (Nat.le_of_ble_eq_true rfl) ?_
  intro p e s m below meth c A ls hC hK hP hD hS hA hl
  refine absQ (fun Q0 hQ0 => ?_)
  have hl : lv_has ls 5 [(0, .ref h0), (1, .int (nI jp)), (2, .ref kx)] := hl
  refine Kan8 hC (fun hx hb hr hml hB hown hlocks hnm => ?_)
  refine lv_iconst (v := (-1)) hx hb gX3_isRight_0.1 (by decide) ?_
  refine lv_istore_n (lv' := [(3, .int (-1)), (0, .ref h0), (1, .int (nI jp)), (2, .ref kx)]) hx hb gX3_isRight_0.2.1 rfl hl (by decide) rfl (fun ls hl => ?_)
  refine lv_iconst (v := 0) hx hb gX3_isRight_0.2.2.1 (by decide) ?_
  refine lv_istore (lv' := [(4, .int 0), (3, .int (-1)), (0, .ref h0), (1, .int (nI jp)), (2, .ref kx)]) hx hb gX3_isRight_0.2.2.2.1 hl (by decide) rfl (fun ls hl => ?_)
  have keyP : ∀ (nP kP : Nat) (la : Int32) (vx : Nat → Int32) (H : Heap) (locs : List Loc) (ls : Array Slot), kP + nP = kbstamps → (LAS fbstamps (fun q9 => q9 = jp) kP jp la) → (CLB (KSG K9 fbstamps (fun q9 => q9 = jp) gp.toInt kP) (MAT vx)) → va_PD G A [(h0, oX3 bb hd bo le bi), (bb, oX0 bpersons bpapers bstamps bversions blines bsteps bsayings bfindings bwarnings bquestions td vd vl gp), (bstamps, oX8 24 3 bstampsc (nI kbstamps)), (bstampsc, iA G 72 fbstamps), (kx, oX1 ky), (ky, iA G 36 vx)] H → va_S A s.heap H locs → lv_has ls 5 [(4, .int (nI kP)), (3, .int la), (0, .ref h0), (1, .int (nI jp)), (2, .ref kx)] → W p l e (RM 4 0 0) s m ([.ref h0, .int (nI jp), .ref kx] : List Value).toArray below meth c H locs 0 0 Q0 (F0 m 5 ls []) := by
    intro nP
    induction nP with
    | zero =>
      intro kP la vx H locs ls hkP hla hcb hPD hS hl
      refine Kan2 hPD (fun hP hD => ?_)
      obtain rfl : kbstamps = kP := by omega
      have hl : lv_has ls 5 [(4, .int (nI kbstamps)), (3, .int la), (0, .ref h0), (1, .int (nI jp)), (2, .ref kx)] := hl
      refine lv_iload hx hb gX3_isRight_0.2.2.2.2.1 (lv_at0 hl) ?_
      refine lv_aload_n hx hb gX3_isRight_0.2.2.2.2.2.1 rfl (lv_at2 hl) ?_
      refine gf_X3_17 hC rfl hK hP 0 rfl rfl gX3_isRight_0.2.2.2.2.2.2.1 ?_
      refine gf_X3_70 hC rfl hK hP 1 rfl rfl gX3_isRight_0.2.2.2.2.2.2.2.1 ?_
      refine pV hC hK hl hP hD (c_T_count l G bstamps 24 3 bstampsc kbstamps) si_X3_38 [2] sm_2 fm_2 nd_2 rfl rfl rfl rfl rfl (Nat.le_of_ble_eq_true rfl) rm_4_1_1 ⟨by first | exact Nat.le_of_ble_eq_true rfl | exact Nat.zero_le _, by first | exact Nat.le_of_ble_eq_true rfl | exact Nat.zero_le _⟩ gX3_isRight_0.2.2.2.2.2.2.2.2.1 (Keqr ?_)
      refine lv_icmp_ge (tgt := 79) hx hb gX3_isRight_0.2.2.2.2.2.2.2.2.2 (by decide) (fun _ => ?_) (fun c9 => absurd (Int32.le_refl _) c9)
      refine lv_iconst (v := 1) hx hb gX3_isRight_3.2.2.2.2.2.2.2.2.1 (by decide) ?_
      refine toQ hQ0 ?_
      exact RI (v := 1) hC hP hD hS [0, 1, 2, 3, 4, 5] vx rfl rfl (by decide) (Or.inl ⟨rfl, hcb⟩) (by decide +kernel) gX3_isRight_3.2.2.2.2.2.2.2.2.2
    | succ nP ihP =>
      intro kP la vx H locs ls hkP hla hcb hPD hS hl
      refine Kan2 hPD (fun hP hD => ?_)
      refine lv_iload hx hb gX3_isRight_0.2.2.2.2.1 (lv_at0 hl) ?_
      refine lv_aload_n hx hb gX3_isRight_0.2.2.2.2.2.1 rfl (lv_at2 hl) ?_
      refine gf_X3_17 hC rfl hK hP 0 rfl rfl gX3_isRight_0.2.2.2.2.2.2.1 ?_
      refine gf_X3_70 hC rfl hK hP 1 rfl rfl gX3_isRight_0.2.2.2.2.2.2.2.1 ?_
      refine pV hC hK hl hP hD (c_T_count l G bstamps 24 3 bstampsc kbstamps) si_X3_38 [2] sm_2 fm_2 nd_2 rfl rfl rfl rfl rfl (Nat.le_of_ble_eq_true rfl) rm_4_1_1 ⟨by first | exact Nat.le_of_ble_eq_true rfl | exact Nat.zero_le _, by first | exact Nat.le_of_ble_eq_true rfl | exact Nat.zero_le _⟩ gX3_isRight_0.2.2.2.2.2.2.2.2.1 (Keqr ?_)
      refine lv_icmp_ge (tgt := 79) hx hb gX3_isRight_0.2.2.2.2.2.2.2.2.2 (by decide) (fun c9 => absurd c9 (nI_ge (a := kP) (b := kbstamps) (by omega) (by omega))) (fun _ => ?_)
      refine lv_aload_n hx hb gX3_isRight_1.1 rfl (lv_at2 hl) ?_
      refine gf_X3_17 hC rfl hK hP 0 rfl rfl gX3_isRight_1.2.1 ?_
      refine gf_X3_70 hC rfl hK hP 1 rfl rfl gX3_isRight_1.2.2.1 ?_
      refine lv_iload hx hb gX3_isRight_1.2.2.2.1 (lv_at0 hl) ?_
      refine lv_iconst (v := 0) hx hb gX3_isRight_1.2.2.2.2.1 (by decide) ?_
      refine pV hC hK hl hP hD (c_T_at l G bstamps (nI kP) 0 24 3 bstampsc kbstamps fbstamps (hkbstamps) (by omega) (by omega)) si_X3_73 [2, 3] sm_2_3 fm_2_3 nd_2_3 rfl rfl rfl rfl rfl (Nat.le_of_ble_eq_true rfl) rm_4_1_3 ⟨by first | exact Nat.le_of_ble_eq_true rfl | exact Nat.zero_le _, by first | exact Nat.le_of_ble_eq_true rfl | exact Nat.zero_le _⟩ gX3_isRight_1.2.2.2.2.2.1 (fun r2227 hr2227 => ?_)
      have q2229 : r2227 = fbstamps (kP * 3 + 0) := hr2227.trans (tatr (by omega) (by omega) (by decide) (by decide) rfl)
      refine lv_iload_n hx hb gX3_isRight_1.2.2.2.2.2.2.1 rfl (lv_at3 hl) ?_
      refine lv_icmp_eq (tgt := 40) hx hb gX3_isRight_1.2.2.2.2.2.2.2.1 (by decide) (fun c_34_2230 => ?_) (fun c_34_2230 => ?_)
      · refine lv_iload_n hx hb gX3_isRight_1.2.2.2.2.2.2.2.2.2 rfl (lv_at1 hl) ?_
        refine lv_if_lt (tgt := 70) hx hb gX3_isRight_2.1 (by decide) (fun c_41_2231 => ?_) (fun c_41_2231 => ?_)
        · refine lv_iload hx hb gX3_isRight_3.2.2.2.2.1 (lv_at0 hl) ?_
          refine lv_istore_n (lv' := [(3, .int (nI kP)), (4, .int (nI kP)), (0, .ref h0), (1, .int (nI jp)), (2, .ref kx)]) hx hb gX3_isRight_3.2.2.2.2.2.1 rfl hl (by decide) rfl (fun ls hl => ?_)
          refine lv_iinc (v := nI (kP + 1)) (lv' := [(4, .int (nI (kP + 1))), (3, .int (nI kP)), (0, .ref h0), (1, .int (nI jp)), (2, .ref kx)]) hx hb gX3_isRight_3.2.2.2.2.2.2.1 hl (k := 1) rfl (nI_1 _) (by decide) rfl (fun ls hl => ?_)
          refine lv_goto (tgt := 5) hx hb gX3_isRight_3.2.2.2.2.2.2.2.1 (by decide) ?_
          have hst7 : LAS fbstamps (fun q9 => q9 = jp) (kP + 1) jp (nI kP) := LAS.new (q2229.symm.trans c_34_2230) rfl
          have hst8 : CLB (KSG K9 fbstamps (fun q9 => q9 = jp) gp.toInt (kP + 1)) (MAT vx) := by rw [KSG.no (hla.nop (hla.neg (c_41_2231) (by omega)) (by omega) (by omega) (q2229.symm.trans c_34_2230))]; exact hcb
          exact ihP (kP + 1) (nI kP) vx _ _ _ (by omega) (by first | assumption | exact Or.inl rfl | exact Or.inr rfl | exact LAS.zero | (rw [KSG.zero]; exact hCB)) (by first | assumption | exact Or.inl rfl | exact Or.inr rfl | exact LAS.zero | (rw [KSG.zero]; exact hCB)) (And.intro hP hD) hS (lv_sub hl [0, 1, 2, 3, 4] rfl)
        · obtain ⟨js, hjs, ejs, hpc⟩ := hla.prc (LAS.nneg c_41_2231) (by omega) (q2229.symm.trans c_34_2230)
          refine lv_aload_n hx hb gX3_isRight_2.2.1 rfl (lv_at4 hl) ?_
          refine lv_aload_n hx hb gX3_isRight_2.2.2.1 rfl (lv_at2 hl) ?_
          refine gf_X3_17 hC rfl hK hP 0 rfl rfl gX3_isRight_2.2.2.2.1 ?_
          refine gf_X3_70 hC rfl hK hP 1 rfl rfl gX3_isRight_2.2.2.2.2.1 ?_
          refine lv_iload_n hx hb gX3_isRight_2.2.2.2.2.2.1 rfl (lv_at1 hl) ?_
          refine eqi (x1 := nI js) ejs ?_
          refine lv_iload hx hb gX3_isRight_2.2.2.2.2.2.2.1 (lv_at0 hl) ?_
          refine lv_aload_n hx hb gX3_isRight_2.2.2.2.2.2.2.2.1 rfl (lv_at2 hl) ?_
          refine gf_X3_17 hC rfl hK hP 0 rfl rfl gX3_isRight_2.2.2.2.2.2.2.2.2.1 ?_
          refine gf_X3_77 hC rfl hK hP 1 rfl rfl gX3_isRight_2.2.2.2.2.2.2.2.2.2 ?_
          refine iV (wr := [(h0, oX3 bb hd bo le bi), (bb, oX0 bpersons bpapers bstamps bversions blines bsteps bsayings bfindings bwarnings bquestions td vd vl gp)]) hC hK hl hP hD hS hA (c_followX l G (KSG K9 fbstamps (fun q9 => q9 = jp) gp.toInt kP) kx bstamps js kP gp ky vx bstampsc kbstamps fbstamps (hcb) (hSV) (hgp) (by omega) (by omega) (hkbstamps)) si_X3_80 [4, 5, 2, 3] [0, 1] sm_4_5_2_3 fm_4_5_2_3 nd_4_5_2_3 sm_0_1 nd_0_1 dj_4_5_2_3__0_1 rfl rfl rfl rfl rfl (Nat.le_of_ble_eq_true rfl) rm_4_3_8 ⟨Nat.le_of_ble_eq_true rfl, Nat.le_of_ble_eq_true rfl⟩ gX3_isRight_3.1 (fun r2232 f12234 H locs hr2232 hP hD hS => ?_)
          try dsimp only at hr2232
          refine Kpdr (ws := [(h0, oX3 bb hd bo le bi), (bb, oX0 bpersons bpapers bstamps bversions blines bsteps bsayings bfindings bwarnings bquestions td vd vl gp), (kx, oX1 ky), (ky, iA G 36 f12234), (bstamps, oX8 24 3 bstampsc (nI kbstamps)), (bstampsc, iA G 72 fbstamps)]) hP hD (fun hP hD => ?_)
          rcases hr2232 with ⟨rfl, a2235⟩ | ⟨rfl, a2235⟩
          · refine lv_if_ne (tgt := 70) hx hb gX3_isRight_3.2.1 (by decide) (fun _ => ?_) (fun c9 => absurd c9 (by decide))
            refine lv_iload hx hb gX3_isRight_3.2.2.2.2.1 (lv_at0 hl) ?_
            refine lv_istore_n (lv' := [(3, .int (nI kP)), (4, .int (nI kP)), (0, .ref h0), (1, .int (nI jp)), (2, .ref kx)]) hx hb gX3_isRight_3.2.2.2.2.2.1 rfl hl (by decide) rfl (fun ls hl => ?_)
            refine lv_iinc (v := nI (kP + 1)) (lv' := [(4, .int (nI (kP + 1))), (3, .int (nI kP)), (0, .ref h0), (1, .int (nI jp)), (2, .ref kx)]) hx hb gX3_isRight_3.2.2.2.2.2.2.1 hl (k := 1) rfl (nI_1 _) (by decide) rfl (fun ls hl => ?_)
            refine lv_goto (tgt := 5) hx hb gX3_isRight_3.2.2.2.2.2.2.2.1 (by decide) ?_
            refine Kpds (ws' := [(h0, oX3 bb hd bo le bi), (bb, oX0 bpersons bpapers bstamps bversions blines bsteps bsayings bfindings bwarnings bquestions td vd vl gp), (bstamps, oX8 24 3 bstampsc (nI kbstamps)), (bstampsc, iA G 72 fbstamps), (kx, oX1 ky), (ky, iA G 36 f12234)]) hP hD [0, 1, 4, 5, 2, 3] fm_0_1_4_5_2_3 nd_0_1_4_5_2_3 sm_0_1_4_5_2_3 (fun hP hD => ?_)
            have hst7 : LAS fbstamps (fun q9 => q9 = jp) (kP + 1) jp (nI kP) := LAS.new (q2229.symm.trans c_34_2230) rfl
            have hst8 : CLB (KSG K9 fbstamps (fun q9 => q9 = jp) gp.toInt (kP + 1)) (MAT f12234) := by rw [KFO.sg hpc]; exact a2235
            exact ihP (kP + 1) (nI kP) f12234 _ _ _ (by omega) (by first | assumption | exact Or.inl rfl | exact Or.inr rfl | exact LAS.zero | (rw [KSG.zero]; exact hCB)) (by first | assumption | exact Or.inl rfl | exact Or.inr rfl | exact LAS.zero | (rw [KSG.zero]; exact hCB)) (And.intro hP hD) hS (lv_sub hl [0, 1, 2, 3, 4] rfl)
          · refine lv_if_ne (tgt := 70) hx hb gX3_isRight_3.2.1 (by decide) (fun c9 => absurd (by decide) c9) (fun _ => ?_)
            refine lv_iconst (v := 0) hx hb gX3_isRight_3.2.2.1 (by decide) ?_
            refine toQ hQ0 ?_
            exact RI (v := 0) hC hP hD hS [0, 1, 4, 5, 2, 3] f12234 rfl rfl (by decide) (Or.inr ⟨rfl, NOS.mono (K := (KSG K9 fbstamps (fun q9 => q9 = jp) gp.toInt (kP + 1))) (by rw [KFO.sg hpc]; exact a2235) (KSG.up (by omega))⟩) (by decide +kernel) gX3_isRight_3.2.2.2.1
      · refine lv_goto (tgt := 73) hx hb gX3_isRight_1.2.2.2.2.2.2.2.2.1 (by decide) ?_
        refine lv_iinc (v := nI (kP + 1)) (lv' := [(4, .int (nI (kP + 1))), (3, .int la), (0, .ref h0), (1, .int (nI jp)), (2, .ref kx)]) hx hb gX3_isRight_3.2.2.2.2.2.2.1 hl (k := 0) rfl (nI_1 _) (by decide) rfl (fun ls hl => ?_)
        refine lv_goto (tgt := 5) hx hb gX3_isRight_3.2.2.2.2.2.2.2.1 (by decide) ?_
        obtain ⟨jz, hjz, ejz⟩ := (hSV kP (by omega)).1
        have hun9 : ¬ jz = jp := fun h9 => (fun h9 => c_34_2230 (q2229.trans h9)) (ejz.trans (congrArg nI h9))
        have hst7 : LAS fbstamps (fun q9 => q9 = jp) (kP + 1) jp la := hla.skip (fun h9 => absurd h9 (fun h9 => c_34_2230 (q2229.trans h9)))
        have hst8 : CLB (KSG K9 fbstamps (fun q9 => q9 = jp) gp.toInt (kP + 1)) (MAT vx) := by rw [KSG.no (PRC.unseen (p := jz) (by omega) ejz hun9)]; exact hcb
        exact ihP (kP + 1) la vx _ _ _ (by omega) (by first | assumption | exact Or.inl rfl | exact Or.inr rfl | exact LAS.zero | (rw [KSG.zero]; exact hCB)) (by first | assumption | exact Or.inl rfl | exact Or.inr rfl | exact LAS.zero | (rw [KSG.zero]; exact hCB)) (And.intro hP hD) hS (lv_sub hl [0, 1, 2, 3, 4] rfl)
  exact keyP kbstamps 0 (-1) fx _ _ _ (by omega) (by first | assumption | exact Or.inl rfl | exact Or.inr rfl | exact LAS.zero | (rw [KSG.zero]; exact hCB)) (by first | assumption | exact Or.inl rfl | exact Or.inr rfl | exact LAS.zero | (rw [KSG.zero]; exact hCB)) (And.intro hP hD) hS (lv_sub hl [0, 1, 2, 3, 4] rfl)
def K_c_holdDX (l : Launch) (G : GG) (mn : Nat) (j : Nat) (V9 : Nat → Prop) (B9 : Nat → Prop) (h0 : Nat) (jw : Nat) (jc : Nat) (lv : Nat) (bb : Nat) (hd : Nat) (bo : Int32) (jl : Nat) (jb : Nat) (hf : Nat → Option Nat) (kc0 : Nat) (km0 : Nat) (fk0 : Nat → Int32) (kc1 : Nat) (km1 : Nat) (fk1 : Nat → Int32) (kc2 : Nat) (km2 : Nat) (fk2 : Nat → Int32) (kc3 : Nat) (km3 : Nat) (fk3 : Nat → Int32) (kc4 : Nat) (km4 : Nat) (fk4 : Nat → Int32) (kc5 : Nat) (km5 : Nat) (fk5 : Nat → Int32) (kc6 : Nat) (km6 : Nat) (fk6 : Nat → Int32) (kc7 : Nat) (km7 : Nat) (fk7 : Nat → Int32) (kc8 : Nat) (km8 : Nat) (fk8 : Nat → Int32) (kc9 : Nat) (km9 : Nat) (fk9 : Nat → Int32) (kc10 : Nat) (km10 : Nat) (fk10 : Nat → Int32) (kc11 : Nat) (km11 : Nat) (fk11 : Nat → Int32) (kc12 : Nat) (km12 : Nat) (fk12 : Nat → Int32) (bpersons : Nat) (bpapers : Nat) (bstamps : Nat) (bversions : Nat) (blines : Nat) (bsteps : Nat) (bsayings : Nat) (bfindings : Nat) (bwarnings : Nat) (bquestions : Nat) (td : Int32) (vd : Int32) (vl : Int32) (gp : Int32) (bstampsc : Nat) (kbstamps : Nat) (fbstamps : Nat → Int32) : Prop := MV l G yX3_holdOrLeave cX3_holdOrLeave 5 (5 + 2 * mn) 0 0 [.ref h0, .int (nI j), .int (nI jw), .int (nI jc), .int (nI lv)] [(h0, oX3 bb hd bo (nI jl) (nI jb)), (hd, cA G 13 hf), (kc0, oX1 km0), (km0, iA G 36 fk0), (kc1, oX1 km1), (km1, iA G 36 fk1), (kc2, oX1 km2), (km2, iA G 36 fk2), (kc3, oX1 km3), (km3, iA G 36 fk3), (kc4, oX1 km4), (km4, iA G 36 fk4), (kc5, oX1 km5), (km5, iA G 36 fk5), (kc6, oX1 km6), (km6, iA G 36 fk6), (kc7, oX1 km7), (km7, iA G 36 fk7), (kc8, oX1 km8), (km8, iA G 36 fk8), (kc9, oX1 km9), (km9, iA G 36 fk9), (kc10, oX1 km10), (km10, iA G 36 fk10), (kc11, oX1 km11), (km11, iA G 36 fk11), (kc12, oX1 km12), (km12, iA G 36 fk12), (bb, oX0 bpersons bpapers bstamps bversions blines bsteps bsayings bfindings bwarnings bquestions td vd vl gp), (bstamps, oX8 24 3 bstampsc (nI kbstamps)), (bstampsc, iA G 72 fbstamps)] (fun u : Nat × Nat × (Nat → Int32) × (Nat → Int32) × (Nat → Int32) × (Nat → Int32) × (Nat → Int32) × (Nat → Int32) × (Nat → Int32) × (Nat → Int32) × (Nat → Int32) × (Nat → Int32) × (Nat → Int32) × (Nat → Int32) × (Nat → Int32) => RES (TRE B9 (j + 1) jw) (GDW fbstamps V9 gp.toInt kbstamps) jl jb u.1 u.2.1 ∧ MKP [fk0, fk1, fk2, fk3, fk4, fk5, fk6, fk7, fk8, fk9, fk10, fk11, fk12] [u.2.2.1, u.2.2.2.1, u.2.2.2.2.1, u.2.2.2.2.2.1, u.2.2.2.2.2.2.1, u.2.2.2.2.2.2.2.1, u.2.2.2.2.2.2.2.2.1, u.2.2.2.2.2.2.2.2.2.1, u.2.2.2.2.2.2.2.2.2.2.1, u.2.2.2.2.2.2.2.2.2.2.2.1, u.2.2.2.2.2.2.2.2.2.2.2.2.1, u.2.2.2.2.2.2.2.2.2.2.2.2.2.1, u.2.2.2.2.2.2.2.2.2.2.2.2.2.2] lv) (fun u : Nat × Nat × (Nat → Int32) × (Nat → Int32) × (Nat → Int32) × (Nat → Int32) × (Nat → Int32) × (Nat → Int32) × (Nat → Int32) × (Nat → Int32) × (Nat → Int32) × (Nat → Int32) × (Nat → Int32) × (Nat → Int32) × (Nat → Int32) => [(h0, oX3 bb hd bo (nI u.1) (nI u.2.1)), (hd, cA G 13 hf), (kc0, oX1 km0), (km0, iA G 36 u.2.2.1), (kc1, oX1 km1), (km1, iA G 36 u.2.2.2.1), (kc2, oX1 km2), (km2, iA G 36 u.2.2.2.2.1), (kc3, oX1 km3), (km3, iA G 36 u.2.2.2.2.2.1), (kc4, oX1 km4), (km4, iA G 36 u.2.2.2.2.2.2.1), (kc5, oX1 km5), (km5, iA G 36 u.2.2.2.2.2.2.2.1), (kc6, oX1 km6), (km6, iA G 36 u.2.2.2.2.2.2.2.2.1), (kc7, oX1 km7), (km7, iA G 36 u.2.2.2.2.2.2.2.2.2.1), (kc8, oX1 km8), (km8, iA G 36 u.2.2.2.2.2.2.2.2.2.2.1), (kc9, oX1 km9), (km9, iA G 36 u.2.2.2.2.2.2.2.2.2.2.2.1), (kc10, oX1 km10), (km10, iA G 36 u.2.2.2.2.2.2.2.2.2.2.2.2.1), (kc11, oX1 km11), (km11, iA G 36 u.2.2.2.2.2.2.2.2.2.2.2.2.2.1), (kc12, oX1 km12), (km12, iA G 36 u.2.2.2.2.2.2.2.2.2.2.2.2.2.2), (bb, oX0 bpersons bpapers bstamps bversions blines bsteps bsayings bfindings bwarnings bquestions td vd vl gp), (bstamps, oX8 24 3 bstampsc (nI kbstamps)), (bstampsc, iA G 72 fbstamps)])
set_option maxHeartbeats 4000000 in
set_option maxRecDepth 100000 in
theorem c_holdDX (l : Launch) (G : GG) (mn : Nat) (j : Nat) (V9 : Nat → Prop) (B9 : Nat → Prop) (h0 : Nat) (jw : Nat) (jc : Nat) (lv : Nat) (bb : Nat) (hd : Nat) (bo : Int32) (jl : Nat) (jb : Nat) (hf : Nat → Option Nat) (kc0 : Nat) (km0 : Nat) (fk0 : Nat → Int32) (kc1 : Nat) (km1 : Nat) (fk1 : Nat → Int32) (kc2 : Nat) (km2 : Nat) (fk2 : Nat → Int32) (kc3 : Nat) (km3 : Nat) (fk3 : Nat → Int32) (kc4 : Nat) (km4 : Nat) (fk4 : Nat → Int32) (kc5 : Nat) (km5 : Nat) (fk5 : Nat → Int32) (kc6 : Nat) (km6 : Nat) (fk6 : Nat → Int32) (kc7 : Nat) (km7 : Nat) (fk7 : Nat → Int32) (kc8 : Nat) (km8 : Nat) (fk8 : Nat → Int32) (kc9 : Nat) (km9 : Nat) (fk9 : Nat → Int32) (kc10 : Nat) (km10 : Nat) (fk10 : Nat → Int32) (kc11 : Nat) (km11 : Nat) (fk11 : Nat → Int32) (kc12 : Nat) (km12 : Nat) (fk12 : Nat → Int32) (bpersons : Nat) (bpapers : Nat) (bstamps : Nat) (bversions : Nat) (blines : Nat) (bsteps : Nat) (bsayings : Nat) (bfindings : Nat) (bwarnings : Nat) (bquestions : Nat) (td : Int32) (vd : Int32) (vl : Int32) (gp : Int32) (bstampsc : Nat) (kbstamps : Nat) (fbstamps : Nat → Int32) (hjm : j < mn) (hkbstamps : kbstamps ≤ 24) (hlv : lv + (j + 1) ≤ 12) (hh0 : hf 0 = some kc0) (hh1 : hf 1 = some kc1) (hh2 : hf 2 = some kc2) (hh3 : hf 3 = some kc3) (hh4 : hf 4 = some kc4) (hh5 : hf 5 = some kc5) (hh6 : hf 6 = some kc6) (hh7 : hf 7 = some kc7) (hh8 : hf 8 = some kc8) (hh9 : hf 9 = some kc9) (hh10 : hf 10 = some kc10) (hh11 : hf 11 = some kc11) (hh12 : hf 12 = some kc12) (hSV : SVL fbstamps kbstamps) (hgp : GPR gp) (hBV : ∀ p, B9 p → V9 p) (hVB : ∀ p, p < 12 → MST fbstamps kbstamps p → V9 p → B9 p) (hBB : ∀ p, p < 12 → (HB bo (nI p) ↔ B9 p)) (hWS : WST B9 (j + 1) jw) (hCT : jc = PCN jw 12) (hKH : CLB (KHL fbstamps B9 gp.toInt kbstamps (j + 1) jw) (MAT (MGT [fk0, fk1, fk2, fk3, fk4, fk5, fk6, fk7, fk8, fk9, fk10, fk11, fk12] lv))) (hjl : jl ≤ 13) (hbj : B9 j) (ihS : ∀ m9, m9 < mn → ∀ (V9 : Nat → Prop) (B9 : Nat → Prop) (h0 : Nat) (jw : Nat) (jc : Nat) (lv : Nat) (bb : Nat) (hd : Nat) (bo : Int32) (jl : Nat) (jb : Nat) (hf : Nat → Option Nat) (kc0 : Nat) (km0 : Nat) (fk0 : Nat → Int32) (kc1 : Nat) (km1 : Nat) (fk1 : Nat → Int32) (kc2 : Nat) (km2 : Nat) (fk2 : Nat → Int32) (kc3 : Nat) (km3 : Nat) (fk3 : Nat → Int32) (kc4 : Nat) (km4 : Nat) (fk4 : Nat → Int32) (kc5 : Nat) (km5 : Nat) (fk5 : Nat → Int32) (kc6 : Nat) (km6 : Nat) (fk6 : Nat → Int32) (kc7 : Nat) (km7 : Nat) (fk7 : Nat → Int32) (kc8 : Nat) (km8 : Nat) (fk8 : Nat → Int32) (kc9 : Nat) (km9 : Nat) (fk9 : Nat → Int32) (kc10 : Nat) (km10 : Nat) (fk10 : Nat → Int32) (kc11 : Nat) (km11 : Nat) (fk11 : Nat → Int32) (kc12 : Nat) (km12 : Nat) (fk12 : Nat → Int32) (bpersons : Nat) (bpapers : Nat) (bstamps : Nat) (bversions : Nat) (blines : Nat) (bsteps : Nat) (bsayings : Nat) (bfindings : Nat) (bwarnings : Nat) (bquestions : Nat) (td : Int32) (vd : Int32) (vl : Int32) (gp : Int32) (bstampsc : Nat) (kbstamps : Nat) (fbstamps : Nat → Int32) (hkbstamps : kbstamps ≤ 24) (hlv : lv + m9 ≤ 12) (hh0 : hf 0 = some kc0) (hh1 : hf 1 = some kc1) (hh2 : hf 2 = some kc2) (hh3 : hf 3 = some kc3) (hh4 : hf 4 = some kc4) (hh5 : hf 5 = some kc5) (hh6 : hf 6 = some kc6) (hh7 : hf 7 = some kc7) (hh8 : hf 8 = some kc8) (hh9 : hf 9 = some kc9) (hh10 : hf 10 = some kc10) (hh11 : hf 11 = some kc11) (hh12 : hf 12 = some kc12) (hSV : SVL fbstamps kbstamps) (hgp : GPR gp) (hBV : ∀ p, B9 p → V9 p) (hVB : ∀ p, p < 12 → MST fbstamps kbstamps p → V9 p → B9 p) (hBB : ∀ p, p < 12 → (HB bo (nI p) ↔ B9 p)) (hWS : WST B9 m9 jw) (hCT : jc = PCN jw 12) (hKH : CLB (KHL fbstamps B9 gp.toInt kbstamps m9 jw) (MAT (MGT [fk0, fk1, fk2, fk3, fk4, fk5, fk6, fk7, fk8, fk9, fk10, fk11, fk12] lv))) (hjl : jl ≤ 13), MV l G yX3_search cX3_search 6 (6 + 2 * m9) 0 0 [.ref h0, .int (nI m9 - 1), .int (nI jw), .int (nI jc), .int (nI lv)] [(h0, oX3 bb hd bo (nI jl) (nI jb)), (hd, cA G 13 hf), (kc0, oX1 km0), (km0, iA G 36 fk0), (kc1, oX1 km1), (km1, iA G 36 fk1), (kc2, oX1 km2), (km2, iA G 36 fk2), (kc3, oX1 km3), (km3, iA G 36 fk3), (kc4, oX1 km4), (km4, iA G 36 fk4), (kc5, oX1 km5), (km5, iA G 36 fk5), (kc6, oX1 km6), (km6, iA G 36 fk6), (kc7, oX1 km7), (km7, iA G 36 fk7), (kc8, oX1 km8), (km8, iA G 36 fk8), (kc9, oX1 km9), (km9, iA G 36 fk9), (kc10, oX1 km10), (km10, iA G 36 fk10), (kc11, oX1 km11), (km11, iA G 36 fk11), (kc12, oX1 km12), (km12, iA G 36 fk12), (bb, oX0 bpersons bpapers bstamps bversions blines bsteps bsayings bfindings bwarnings bquestions td vd vl gp), (bstamps, oX8 24 3 bstampsc (nI kbstamps)), (bstampsc, iA G 72 fbstamps)] (fun u : Nat × Nat × (Nat → Int32) × (Nat → Int32) × (Nat → Int32) × (Nat → Int32) × (Nat → Int32) × (Nat → Int32) × (Nat → Int32) × (Nat → Int32) × (Nat → Int32) × (Nat → Int32) × (Nat → Int32) × (Nat → Int32) × (Nat → Int32) => RES (TRE B9 m9 jw) (GDW fbstamps V9 gp.toInt kbstamps) jl jb u.1 u.2.1 ∧ MKP [fk0, fk1, fk2, fk3, fk4, fk5, fk6, fk7, fk8, fk9, fk10, fk11, fk12] [u.2.2.1, u.2.2.2.1, u.2.2.2.2.1, u.2.2.2.2.2.1, u.2.2.2.2.2.2.1, u.2.2.2.2.2.2.2.1, u.2.2.2.2.2.2.2.2.1, u.2.2.2.2.2.2.2.2.2.1, u.2.2.2.2.2.2.2.2.2.2.1, u.2.2.2.2.2.2.2.2.2.2.2.1, u.2.2.2.2.2.2.2.2.2.2.2.2.1, u.2.2.2.2.2.2.2.2.2.2.2.2.2.1, u.2.2.2.2.2.2.2.2.2.2.2.2.2.2] lv) (fun u : Nat × Nat × (Nat → Int32) × (Nat → Int32) × (Nat → Int32) × (Nat → Int32) × (Nat → Int32) × (Nat → Int32) × (Nat → Int32) × (Nat → Int32) × (Nat → Int32) × (Nat → Int32) × (Nat → Int32) × (Nat → Int32) × (Nat → Int32) => [(h0, oX3 bb hd bo (nI u.1) (nI u.2.1)), (hd, cA G 13 hf), (kc0, oX1 km0), (km0, iA G 36 u.2.2.1), (kc1, oX1 km1), (km1, iA G 36 u.2.2.2.1), (kc2, oX1 km2), (km2, iA G 36 u.2.2.2.2.1), (kc3, oX1 km3), (km3, iA G 36 u.2.2.2.2.2.1), (kc4, oX1 km4), (km4, iA G 36 u.2.2.2.2.2.2.1), (kc5, oX1 km5), (km5, iA G 36 u.2.2.2.2.2.2.2.1), (kc6, oX1 km6), (km6, iA G 36 u.2.2.2.2.2.2.2.2.1), (kc7, oX1 km7), (km7, iA G 36 u.2.2.2.2.2.2.2.2.2.1), (kc8, oX1 km8), (km8, iA G 36 u.2.2.2.2.2.2.2.2.2.2.1), (kc9, oX1 km9), (km9, iA G 36 u.2.2.2.2.2.2.2.2.2.2.2.1), (kc10, oX1 km10), (km10, iA G 36 u.2.2.2.2.2.2.2.2.2.2.2.2.1), (kc11, oX1 km11), (km11, iA G 36 u.2.2.2.2.2.2.2.2.2.2.2.2.2.1), (kc12, oX1 km12), (km12, iA G 36 u.2.2.2.2.2.2.2.2.2.2.2.2.2.2), (bb, oX0 bpersons bpapers bstamps bversions blines bsteps bsayings bfindings bwarnings bquestions td vd vl gp), (bstamps, oX8 24 3 bstampsc (nI kbstamps)), (bstampsc, iA G 72 fbstamps)])) : K_c_holdDX l G mn j V9 B9 h0 jw jc lv bb hd bo jl jb hf kc0 km0 fk0 kc1 km1 fk1 kc2 km2 fk2 kc3 km3 fk3 kc4 km4 fk4 kc5 km5 fk5 kc6 km6 fk6 kc7 km7 fk7 kc8 km8 fk8 kc9 km9 fk9 kc10 km10 fk10 kc11 km11 fk11 kc12 km12 fk12 bpersons bpapers bstamps bversions blines bsteps bsayings bfindings bwarnings bquestions td vd vl gp bstampsc kbstamps fbstamps := by
  refine MV.start (by decide +kernel) (Nat.le_of_ble_eq_true rfl) ?_
  intro p e s m below meth c A ls hC hK hP hD hS hA hl
  refine absQ (fun Q0 hQ0 => ?_)
  have hl : lv_has ls 5 [(0, .ref h0), (1, .int (nI j)), (2, .int (nI jw)), (3, .int (nI jc)), (4, .int (nI lv))] := hl
  refine Kan8 hC (fun hx hb hr hml hB hown hlocks hnm => ?_)
  have hj12 : j < 12 := by omega
  have hwj : jw.testBit j = false := hWS.2.1 j (by omega)
  rcases (show lv = 0 ∨ lv = 1 ∨ lv = 2 ∨ lv = 3 ∨ lv = 4 ∨ lv = 5 ∨ lv = 6 ∨ lv = 7 ∨ lv = 8 ∨ lv = 9 ∨ lv = 10 ∨ lv = 11 by omega) with rfl | rfl | rfl | rfl | rfl | rfl | rfl | rfl | rfl | rfl | rfl | rfl
  · have hl : lv_has ls 5 [(0, .ref h0), (1, .int (nI j)), (2, .int (nI jw)), (3, .int (nI jc)), (4, .int 0)] := hl
    refine lv_iload hx hb gX3_holdOrLeave_0.1 (lv_at4 hl) ?_
    refine lv_if_lt (tgt := 17) hx hb gX3_holdOrLeave_0.2.1 (by decide) (fun c9 => absurd c9 (by decide)) (fun _ => ?_)
    refine lv_iload hx hb gX3_holdOrLeave_0.2.2.1 (lv_at4 hl) ?_
    refine lv_iconst (v := 1) hx hb gX3_holdOrLeave_0.2.2.2.1 (by decide) ?_
    refine lv_iadd hx hb gX3_holdOrLeave_0.2.2.2.2.1 ?_
    refine eqi (x1 := 1) (by decide) ?_
    refine lv_aload_n hx hb gX3_holdOrLeave_0.2.2.2.2.2.1 rfl (lv_at0 hl) ?_
    refine gf_X3_11 hC rfl hK hP 0 rfl rfl gX3_holdOrLeave_0.2.2.2.2.2.2.1 ?_
    refine va_alen (v := 13) hx hb hK.1 hP 1 1 rfl rfl (show Int32.ofNat 13 = 13 by decide) gX3_holdOrLeave_0.2.2.2.2.2.2.2.1 ?_
    refine lv_icmp_lt (tgt := 18) hx hb gX3_holdOrLeave_0.2.2.2.2.2.2.2.2.1 (by decide) (fun _ => ?_) (fun c9 => absurd (by decide) c9)
    refine lv_aload_n hx hb gX3_holdOrLeave_1.1 rfl (lv_at0 hl) ?_
    refine gf_X3_11 hC rfl hK hP 0 rfl rfl gX3_holdOrLeave_1.2.1 ?_
    refine lv_iload hx hb gX3_holdOrLeave_1.2.2.1 (lv_at4 hl) ?_
    refine lv_iconst (v := 1) hx hb gX3_holdOrLeave_1.2.2.2.1 (by decide) ?_
    refine lv_iadd hx hb gX3_holdOrLeave_1.2.2.2.2.1 ?_
    refine eqi (x1 := 1) (by decide) ?_
    refine aldC hC hK hP 1 rfl (vin (by decide +kernel)) (k := 1) (by decide +kernel) (v := kc1) (hh1) gX3_holdOrLeave_1.2.2.2.2.2.1 ?_
    refine lv_aload_n hx hb gX3_holdOrLeave_1.2.2.2.2.2.2.1 rfl (lv_at0 hl) ?_
    refine gf_X3_11 hC rfl hK hP 0 rfl rfl gX3_holdOrLeave_1.2.2.2.2.2.2.2.1 ?_
    refine lv_iload hx hb gX3_holdOrLeave_1.2.2.2.2.2.2.2.2.1 (lv_at4 hl) ?_
    refine aldC hC hK hP 1 rfl (vin (by decide +kernel)) (k := 0) (by decide +kernel) (v := kc0) (hh0) gX3_holdOrLeave_1.2.2.2.2.2.2.2.2.2 ?_
    refine vV (wr := [(h0, oX3 bb hd bo (nI jl) (nI jb)), (hd, cA G 13 hf), (kc2, oX1 km2), (km2, iA G 36 fk2), (kc3, oX1 km3), (km3, iA G 36 fk3), (kc4, oX1 km4), (km4, iA G 36 fk4), (kc5, oX1 km5), (km5, iA G 36 fk5), (kc6, oX1 km6), (km6, iA G 36 fk6), (kc7, oX1 km7), (km7, iA G 36 fk7), (kc8, oX1 km8), (km8, iA G 36 fk8), (kc9, oX1 km9), (km9, iA G 36 fk9), (kc10, oX1 km10), (km10, iA G 36 fk10), (kc11, oX1 km11), (km11, iA G 36 fk11), (kc12, oX1 km12), (km12, iA G 36 fk12), (bb, oX0 bpersons bpapers bstamps bversions blines bsteps bsayings bfindings bwarnings bquestions td vd vl gp), (bstamps, oX8 24 3 bstampsc (nI kbstamps)), (bstampsc, iA G 72 fbstamps)]) hC hK hl hP hD hS hA (c_Cl_copyX l G kc1 kc0 km1 fk1 km0 fk0) si_X3_62 [4, 5, 2, 3] [0, 1, 6, 7, 8, 9, 10, 11, 12, 13, 14, 15, 16, 17, 18, 19, 20, 21, 22, 23, 24, 25, 26, 27, 28, 29, 30] sm_4_5_2_3 fm_4_5_2_3 nd_4_5_2_3 sm_0_1_6_7_8_9_10_11_12_13_14_15_16_17_18_19_20_21_22_23_24_25_26_27_28_29_30 nd_0_1_6_7_8_9_10_11_12_13_14_15_16_17_18_19_20_21_22_23_24_25_26_27_28_29_30 dj_4_5_2_3__0_1_6_7_8_9_10_11_12_13_14_15_16_17_18_19_20_21_22_23_24_25_26_27_28_29_30 rfl rfl rfl rfl rfl (Nat.le_of_ble_eq_true rfl) ⟨by simp only [RM]; omega, by simp only [RM]; omega⟩ ⟨Nat.le_of_ble_eq_true rfl, Nat.le_of_ble_eq_true rfl⟩ gX3_holdOrLeave_2.1 (fun f12238 H locs hr2236 hP hD hS => ?_)
    try dsimp only at hr2236
    refine Kpdr (ws := [(h0, oX3 bb hd bo (nI jl) (nI jb)), (hd, cA G 13 hf), (kc2, oX1 km2), (km2, iA G 36 fk2), (kc3, oX1 km3), (km3, iA G 36 fk3), (kc4, oX1 km4), (km4, iA G 36 fk4), (kc5, oX1 km5), (km5, iA G 36 fk5), (kc6, oX1 km6), (km6, iA G 36 fk6), (kc7, oX1 km7), (km7, iA G 36 fk7), (kc8, oX1 km8), (km8, iA G 36 fk8), (kc9, oX1 km9), (km9, iA G 36 fk9), (kc10, oX1 km10), (km10, iA G 36 fk10), (kc11, oX1 km11), (km11, iA G 36 fk11), (kc12, oX1 km12), (km12, iA G 36 fk12), (bb, oX0 bpersons bpapers bstamps bversions blines bsteps bsayings bfindings bwarnings bquestions td vd vl gp), (bstamps, oX8 24 3 bstampsc (nI kbstamps)), (bstampsc, iA G 72 fbstamps), (kc1, oX1 km1), (km1, iA G 36 f12238), (kc0, oX1 km0), (km0, iA G 36 fk0)]) hP hD (fun hP hD => ?_)
    have w2239 := hr2236
    refine lv_aload_n hx hb gX3_holdOrLeave_2.2.1 rfl (lv_at0 hl) ?_
    refine lv_iload_n hx hb gX3_holdOrLeave_2.2.2.1 rfl (lv_at1 hl) ?_
    refine lv_aload_n hx hb gX3_holdOrLeave_2.2.2.2.1 rfl (lv_at0 hl) ?_
    refine gf_X3_11 hC rfl hK hP 0 rfl rfl gX3_holdOrLeave_2.2.2.2.2.1 ?_
    refine lv_iload hx hb gX3_holdOrLeave_2.2.2.2.2.2.1 (lv_at4 hl) ?_
    refine lv_iconst (v := 1) hx hb gX3_holdOrLeave_2.2.2.2.2.2.2.1 (by decide) ?_
    refine lv_iadd hx hb gX3_holdOrLeave_2.2.2.2.2.2.2.2.1 ?_
    refine eqi (x1 := 1) (by decide) ?_
    refine aldC hC hK hP 1 rfl (vin (by decide +kernel)) (k := 1) (by decide +kernel) (v := kc1) (hh1) gX3_holdOrLeave_2.2.2.2.2.2.2.2.2.1 ?_
    have hcq9 : CLB (KHL fbstamps B9 gp.toInt kbstamps (j + 1) jw) (MAT f12238) := CLB.cg (f := fk0) hKH w2239
    refine iV (wr := [(hd, cA G 13 hf), (kc2, oX1 km2), (km2, iA G 36 fk2), (kc3, oX1 km3), (km3, iA G 36 fk3), (kc4, oX1 km4), (km4, iA G 36 fk4), (kc5, oX1 km5), (km5, iA G 36 fk5), (kc6, oX1 km6), (km6, iA G 36 fk6), (kc7, oX1 km7), (km7, iA G 36 fk7), (kc8, oX1 km8), (km8, iA G 36 fk8), (kc9, oX1 km9), (km9, iA G 36 fk9), (kc10, oX1 km10), (km10, iA G 36 fk10), (kc11, oX1 km11), (km11, iA G 36 fk11), (kc12, oX1 km12), (km12, iA G 36 fk12), (kc0, oX1 km0), (km0, iA G 36 fk0)]) hC hK hl hP hD hS hA (c_isRightX l G (KHL fbstamps B9 gp.toInt kbstamps (j + 1) jw) h0 j kc1 bb hd bo (nI jl) (nI jb) bpersons bpapers bstamps bversions blines bsteps bsayings bfindings bwarnings bquestions td vd vl gp bstampsc kbstamps fbstamps km1 f12238 (hkbstamps) (hcq9) (hSV) (hgp) (by omega)) si_X3_66 [0, 24, 25, 26, 27, 28] [1, 2, 3, 4, 5, 6, 7, 8, 9, 10, 11, 12, 13, 14, 15, 16, 17, 18, 19, 20, 21, 22, 23, 29, 30] sm_0_24_25_26_27_28 fm_0_24_25_26_27_28 nd_0_24_25_26_27_28 sm_1_2_3_4_5_6_7_8_9_10_11_12_13_14_15_16_17_18_19_20_21_22_23_29_30 nd_1_2_3_4_5_6_7_8_9_10_11_12_13_14_15_16_17_18_19_20_21_22_23_29_30 dj_0_24_25_26_27_28__1_2_3_4_5_6_7_8_9_10_11_12_13_14_15_16_17_18_19_20_21_22_23_29_30 rfl rfl rfl rfl rfl (Nat.le_of_ble_eq_true rfl) ⟨by simp only [RM]; omega, by simp only [RM]; omega⟩ ⟨Nat.le_of_ble_eq_true rfl, Nat.le_of_ble_eq_true rfl⟩ gX3_holdOrLeave_2.2.2.2.2.2.2.2.2.2 (fun r2240 gx2242 H locs hr2240 hP hD hS => ?_)
    try dsimp only at hr2240
    refine Kpdr (ws := [(hd, cA G 13 hf), (kc2, oX1 km2), (km2, iA G 36 fk2), (kc3, oX1 km3), (km3, iA G 36 fk3), (kc4, oX1 km4), (km4, iA G 36 fk4), (kc5, oX1 km5), (km5, iA G 36 fk5), (kc6, oX1 km6), (km6, iA G 36 fk6), (kc7, oX1 km7), (km7, iA G 36 fk7), (kc8, oX1 km8), (km8, iA G 36 fk8), (kc9, oX1 km9), (km9, iA G 36 fk9), (kc10, oX1 km10), (km10, iA G 36 fk10), (kc11, oX1 km11), (km11, iA G 36 fk11), (kc12, oX1 km12), (km12, iA G 36 fk12), (kc0, oX1 km0), (km0, iA G 36 fk0), (h0, oX3 bb hd bo (nI jl) (nI jb)), (bb, oX0 bpersons bpapers bstamps bversions blines bsteps bsayings bfindings bwarnings bquestions td vd vl gp), (bstamps, oX8 24 3 bstampsc (nI kbstamps)), (bstampsc, iA G 72 fbstamps), (kc1, oX1 km1), (km1, iA G 36 gx2242)]) hP hD (fun hP hD => ?_)
    rcases hr2240 with ⟨rfl, a2243⟩ | ⟨rfl, a2243⟩
    · refine lv_if_eq (tgt := 67) hx hb gX3_holdOrLeave_3.1 (by decide) (fun c9 => absurd c9 (by decide)) (fun _ => ?_)
      refine lv_aload_n hx hb gX3_holdOrLeave_3.2.1 rfl (lv_at0 hl) ?_
      refine lv_iload_n hx hb gX3_holdOrLeave_3.2.2.1 rfl (lv_at1 hl) ?_
      refine lv_iconst (v := 1) hx hb gX3_holdOrLeave_3.2.2.2.1 (by decide) ?_
      refine lv_isub hx hb gX3_holdOrLeave_3.2.2.2.2.1 ?_
      refine lv_iload_n hx hb gX3_holdOrLeave_3.2.2.2.2.2.1 rfl (lv_at2 hl) ?_
      refine lv_iload_n hx hb gX3_holdOrLeave_3.2.2.2.2.2.2.1 rfl (lv_at3 hl) ?_
      refine lv_iload hx hb gX3_holdOrLeave_3.2.2.2.2.2.2.2.1 (lv_at4 hl) ?_
      refine lv_iconst (v := 1) hx hb gX3_holdOrLeave_3.2.2.2.2.2.2.2.2.1 (by decide) ?_
      refine lv_iadd hx hb gX3_holdOrLeave_3.2.2.2.2.2.2.2.2.2 ?_
      refine eqi (x1 := 1) (by decide) ?_
      have hkn9 : CLB (KHL fbstamps B9 gp.toInt kbstamps j jw) (MAT (MGT [fk0, gx2242, fk2, fk3, fk4, fk5, fk6, fk7, fk8, fk9, fk10, fk11, fk12] 1)) := by have h9 := a2243; rw [KHL.hold hSV hbj hwj] at h9; exact h9
      have hmk8 : MKP [fk0, fk1, fk2, fk3, fk4, fk5, fk6, fk7, fk8, fk9, fk10, fk11, fk12] [fk0, gx2242, fk2, fk3, fk4, fk5, fk6, fk7, fk8, fk9, fk10, fk11, fk12] 0 := fun j9 h9 => by rcases (show j9 = 0 by omega) with rfl <;> rfl
      refine vV (wr := []) hC hK hl hP hD hS hA (ihS j (by omega) V9 B9 h0 jw jc 1 bb hd bo jl jb hf kc0 km0 fk0 kc1 km1 gx2242 kc2 km2 fk2 kc3 km3 fk3 kc4 km4 fk4 kc5 km5 fk5 kc6 km6 fk6 kc7 km7 fk7 kc8 km8 fk8 kc9 km9 fk9 kc10 km10 fk10 kc11 km11 fk11 kc12 km12 fk12 bpersons bpapers bstamps bversions blines bsteps bsayings bfindings bwarnings bquestions td vd vl gp bstampsc kbstamps fbstamps (by omega) (by omega) hh0 hh1 hh2 hh3 hh4 hh5 hh6 hh7 hh8 hh9 hh10 hh11 hh12 hSV hgp hBV hVB hBB hWS.dn hCT hkn9 hjl) si_X3_55 [25, 0, 23, 24, 29, 30, 1, 2, 3, 4, 5, 6, 7, 8, 9, 10, 11, 12, 13, 14, 15, 16, 17, 18, 19, 20, 21, 22, 26, 27, 28] [] sm_25_0_23_24_29_30_1_2_3_4_5_6_7_8_9_10_11_12_13_14_15_16_17_18_19_20_21_22_26_27_28 fm_25_0_23_24_29_30_1_2_3_4_5_6_7_8_9_10_11_12_13_14_15_16_17_18_19_20_21_22_26_27_28 nd_25_0_23_24_29_30_1_2_3_4_5_6_7_8_9_10_11_12_13_14_15_16_17_18_19_20_21_22_26_27_28 rfl rfl (by decide) rfl rfl rfl rfl rfl (Nat.le_of_ble_eq_true rfl) ⟨by simp only [RM]; omega, by simp only [RM]; omega⟩ ⟨Nat.le_of_ble_eq_true rfl, Nat.le_of_ble_eq_true rfl⟩ gX3_holdOrLeave_4.1 (Ktu15 fun jl12246 jb12247 gk02248 gk12249 gk22250 gk32251 gk42252 gk52253 gk62254 gk72255 gk82256 gk92257 gk102258 gk112259 gk122260 => ?_)
      intro H locs hr2244 hP hD hS
      try dsimp only at hr2244
      refine Kpdr (ws := [(h0, oX3 bb hd bo (nI jl12246) (nI jb12247)), (hd, cA G 13 hf), (kc0, oX1 km0), (km0, iA G 36 gk02248), (kc1, oX1 km1), (km1, iA G 36 gk12249), (kc2, oX1 km2), (km2, iA G 36 gk22250), (kc3, oX1 km3), (km3, iA G 36 gk32251), (kc4, oX1 km4), (km4, iA G 36 gk42252), (kc5, oX1 km5), (km5, iA G 36 gk52253), (kc6, oX1 km6), (km6, iA G 36 gk62254), (kc7, oX1 km7), (km7, iA G 36 gk72255), (kc8, oX1 km8), (km8, iA G 36 gk82256), (kc9, oX1 km9), (km9, iA G 36 gk92257), (kc10, oX1 km10), (km10, iA G 36 gk102258), (kc11, oX1 km11), (km11, iA G 36 gk112259), (kc12, oX1 km12), (km12, iA G 36 gk122260), (bb, oX0 bpersons bpapers bstamps bversions blines bsteps bsayings bfindings bwarnings bquestions td vd vl gp), (bstamps, oX8 24 3 bstampsc (nI kbstamps)), (bstampsc, iA G 72 fbstamps)]) hP hD (fun hP hD => ?_)
      have w2261 := hr2244
      refine lv_aload_n hx hb gX3_holdOrLeave_4.2.1 rfl (lv_at0 hl) ?_
      refine lv_iload_n hx hb gX3_holdOrLeave_4.2.2.1 rfl (lv_at1 hl) ?_
      refine lv_iconst (v := 1) hx hb gX3_holdOrLeave_4.2.2.2.1 (by decide) ?_
      refine lv_isub hx hb gX3_holdOrLeave_4.2.2.2.2.1 ?_
      refine lv_iload_n hx hb gX3_holdOrLeave_4.2.2.2.2.2.1 rfl (lv_at2 hl) ?_
      refine lv_iconst (v := 1) hx hb gX3_holdOrLeave_4.2.2.2.2.2.2.1 (by decide) ?_
      refine lv_iload_n hx hb gX3_holdOrLeave_4.2.2.2.2.2.2.2.1 rfl (lv_at1 hl) ?_
      refine lv_ishl hx hb gX3_holdOrLeave_4.2.2.2.2.2.2.2.2.1 ?_
      refine lv_ior hx hb gX3_holdOrLeave_4.2.2.2.2.2.2.2.2.2 ?_
      refine eqi (x1 := nI (jw ||| 2 ^ j)) (nI_orb hj12) ?_
      refine lv_iload_n hx hb gX3_holdOrLeave_5.1 rfl (lv_at3 hl) ?_
      refine lv_iconst (v := 1) hx hb gX3_holdOrLeave_5.2.1 (by decide) ?_
      refine lv_iadd hx hb gX3_holdOrLeave_5.2.2.1 ?_
      refine eqi (x1 := nI (jc + 1)) (nI_1 jc) ?_
      refine lv_iload hx hb gX3_holdOrLeave_5.2.2.2.1 (lv_at4 hl) ?_
      have hre8 : RES (TRE B9 j jw) (GDW fbstamps V9 gp.toInt kbstamps) jl jb jl12246 jb12247 := w2261.1
      have hmk7 : MKP [fk0, fk1, fk2, fk3, fk4, fk5, fk6, fk7, fk8, fk9, fk10, fk11, fk12] [gk02248, gk12249, gk22250, gk32251, gk42252, gk52253, gk62254, gk72255, gk82256, gk92257, gk102258, gk112259, gk122260] 0 := hmk8.tr (w2261.2.le (by omega))
      have hle9 : jl12246 ≤ 13 := Nat.le_trans hre8.le hjl
      have hkm9 : CLB (KHL fbstamps B9 gp.toInt kbstamps j (jw ||| 2 ^ j)) (MAT (MGT [gk02248, gk12249, gk22250, gk32251, gk42252, gk52253, gk62254, gk72255, gk82256, gk92257, gk102258, gk112259, gk122260] 0)) := by rw [hmk7 0 (Nat.le_refl _), KHL.leave hSV]; exact hKH
      have hct9 : jc + 1 = PCN (jw ||| 2 ^ j) 12 := by rw [PCN.or hwj, if_pos hj12, hCT]
      refine vV (wr := []) hC hK hl hP hD hS hA (ihS j (by omega) V9 B9 h0 (jw ||| 2 ^ j) (jc + 1) 0 bb hd bo jl12246 jb12247 hf kc0 km0 gk02248 kc1 km1 gk12249 kc2 km2 gk22250 kc3 km3 gk32251 kc4 km4 gk42252 kc5 km5 gk52253 kc6 km6 gk62254 kc7 km7 gk72255 kc8 km8 gk82256 kc9 km9 gk92257 kc10 km10 gk102258 kc11 km11 gk112259 kc12 km12 gk122260 bpersons bpapers bstamps bversions blines bsteps bsayings bfindings bwarnings bquestions td vd vl gp bstampsc kbstamps fbstamps (by omega) (by omega) hh0 hh1 hh2 hh3 hh4 hh5 hh6 hh7 hh8 hh9 hh10 hh11 hh12 hSV hgp hBV hVB hBB (hWS.or hj12 hbj) hct9 hkm9 hle9) si_X3_55 [0, 1, 2, 3, 4, 5, 6, 7, 8, 9, 10, 11, 12, 13, 14, 15, 16, 17, 18, 19, 20, 21, 22, 23, 24, 25, 26, 27, 28, 29, 30] [] sm_0_1_2_3_4_5_6_7_8_9_10_11_12_13_14_15_16_17_18_19_20_21_22_23_24_25_26_27_28_29_30 fm_0_1_2_3_4_5_6_7_8_9_10_11_12_13_14_15_16_17_18_19_20_21_22_23_24_25_26_27_28_29_30 nd_0_1_2_3_4_5_6_7_8_9_10_11_12_13_14_15_16_17_18_19_20_21_22_23_24_25_26_27_28_29_30 rfl rfl (by decide) rfl rfl rfl rfl rfl (Nat.le_of_ble_eq_true rfl) ⟨by simp only [RM]; omega, by simp only [RM]; omega⟩ ⟨Nat.le_of_ble_eq_true rfl, Nat.le_of_ble_eq_true rfl⟩ gX3_holdOrLeave_5.2.2.2.2.1 (Ktu15 fun jl12264 jb12265 gk02266 gk12267 gk22268 gk32269 gk42270 gk52271 gk62272 gk72273 gk82274 gk92275 gk102276 gk112277 gk122278 => ?_)
      intro H locs hr2262 hP hD hS
      try dsimp only at hr2262
      refine Kpdr (ws := [(h0, oX3 bb hd bo (nI jl12264) (nI jb12265)), (hd, cA G 13 hf), (kc0, oX1 km0), (km0, iA G 36 gk02266), (kc1, oX1 km1), (km1, iA G 36 gk12267), (kc2, oX1 km2), (km2, iA G 36 gk22268), (kc3, oX1 km3), (km3, iA G 36 gk32269), (kc4, oX1 km4), (km4, iA G 36 gk42270), (kc5, oX1 km5), (km5, iA G 36 gk52271), (kc6, oX1 km6), (km6, iA G 36 gk62272), (kc7, oX1 km7), (km7, iA G 36 gk72273), (kc8, oX1 km8), (km8, iA G 36 gk82274), (kc9, oX1 km9), (km9, iA G 36 gk92275), (kc10, oX1 km10), (km10, iA G 36 gk102276), (kc11, oX1 km11), (km11, iA G 36 gk112277), (kc12, oX1 km12), (km12, iA G 36 gk122278), (bb, oX0 bpersons bpapers bstamps bversions blines bsteps bsayings bfindings bwarnings bquestions td vd vl gp), (bstamps, oX8 24 3 bstampsc (nI kbstamps)), (bstampsc, iA G 72 fbstamps)]) hP hD (fun hP hD => ?_)
      have w2279 := hr2262
      refine toQ hQ0 ?_
      exact RV hC hP hD hS [0, 1, 2, 3, 4, 5, 6, 7, 8, 9, 10, 11, 12, 13, 14, 15, 16, 17, 18, 19, 20, 21, 22, 23, 24, 25, 26, 27, 28, 29, 30] (jl12264, jb12265, gk02266, gk12267, gk22268, gk32269, gk42270, gk52271, gk62272, gk72273, gk82274, gk92275, gk102276, gk112277, gk122278) rfl rfl (by decide) (⟨RES.seq hre8 w2279.1 (fun W9 => TRE.two hwj hj12) (fun V8 W8 => TRE.lt hwj hj12), hmk7.tr w2279.2⟩) gX3_holdOrLeave_5.2.2.2.2.2
    · refine lv_if_eq (tgt := 67) hx hb gX3_holdOrLeave_3.1 (by decide) (fun _ => ?_) (fun c9 => absurd (by decide) c9)
      refine lv_aload_n hx hb gX3_holdOrLeave_4.2.1 rfl (lv_at0 hl) ?_
      refine lv_iload_n hx hb gX3_holdOrLeave_4.2.2.1 rfl (lv_at1 hl) ?_
      refine lv_iconst (v := 1) hx hb gX3_holdOrLeave_4.2.2.2.1 (by decide) ?_
      refine lv_isub hx hb gX3_holdOrLeave_4.2.2.2.2.1 ?_
      refine lv_iload_n hx hb gX3_holdOrLeave_4.2.2.2.2.2.1 rfl (lv_at2 hl) ?_
      refine lv_iconst (v := 1) hx hb gX3_holdOrLeave_4.2.2.2.2.2.2.1 (by decide) ?_
      refine lv_iload_n hx hb gX3_holdOrLeave_4.2.2.2.2.2.2.2.1 rfl (lv_at1 hl) ?_
      refine lv_ishl hx hb gX3_holdOrLeave_4.2.2.2.2.2.2.2.2.1 ?_
      refine lv_ior hx hb gX3_holdOrLeave_4.2.2.2.2.2.2.2.2.2 ?_
      refine eqi (x1 := nI (jw ||| 2 ^ j)) (nI_orb hj12) ?_
      refine lv_iload_n hx hb gX3_holdOrLeave_5.1 rfl (lv_at3 hl) ?_
      refine lv_iconst (v := 1) hx hb gX3_holdOrLeave_5.2.1 (by decide) ?_
      refine lv_iadd hx hb gX3_holdOrLeave_5.2.2.1 ?_
      refine eqi (x1 := nI (jc + 1)) (nI_1 jc) ?_
      refine lv_iload hx hb gX3_holdOrLeave_5.2.2.2.1 (lv_at4 hl) ?_
      have hno9 : NOS (KHL fbstamps B9 gp.toInt kbstamps j jw) := by have h9 := a2243; rw [KHL.hold hSV hbj hwj] at h9; exact h9
      have hre8 : RES (TRE B9 j jw) (GDW fbstamps V9 gp.toInt kbstamps) jl jb jl jb := RES.none (fun W9 h8 h9 => absurd h9 (KHL.none hSV hBV hno9 h8))
      have hmk7 : MKP [fk0, fk1, fk2, fk3, fk4, fk5, fk6, fk7, fk8, fk9, fk10, fk11, fk12] [fk0, gx2242, fk2, fk3, fk4, fk5, fk6, fk7, fk8, fk9, fk10, fk11, fk12] 0 := fun j9 h9 => by rcases (show j9 = 0 by omega) with rfl <;> rfl
      have hle9 : jl ≤ 13 := Nat.le_trans hre8.le hjl
      have hkm9 : CLB (KHL fbstamps B9 gp.toInt kbstamps j (jw ||| 2 ^ j)) (MAT (MGT [fk0, gx2242, fk2, fk3, fk4, fk5, fk6, fk7, fk8, fk9, fk10, fk11, fk12] 0)) := by rw [hmk7 0 (Nat.le_refl _), KHL.leave hSV]; exact hKH
      have hct9 : jc + 1 = PCN (jw ||| 2 ^ j) 12 := by rw [PCN.or hwj, if_pos hj12, hCT]
      refine vV (wr := []) hC hK hl hP hD hS hA (ihS j (by omega) V9 B9 h0 (jw ||| 2 ^ j) (jc + 1) 0 bb hd bo jl jb hf kc0 km0 fk0 kc1 km1 gx2242 kc2 km2 fk2 kc3 km3 fk3 kc4 km4 fk4 kc5 km5 fk5 kc6 km6 fk6 kc7 km7 fk7 kc8 km8 fk8 kc9 km9 fk9 kc10 km10 fk10 kc11 km11 fk11 kc12 km12 fk12 bpersons bpapers bstamps bversions blines bsteps bsayings bfindings bwarnings bquestions td vd vl gp bstampsc kbstamps fbstamps (by omega) (by omega) hh0 hh1 hh2 hh3 hh4 hh5 hh6 hh7 hh8 hh9 hh10 hh11 hh12 hSV hgp hBV hVB hBB (hWS.or hj12 hbj) hct9 hkm9 hle9) si_X3_55 [25, 0, 23, 24, 29, 30, 1, 2, 3, 4, 5, 6, 7, 8, 9, 10, 11, 12, 13, 14, 15, 16, 17, 18, 19, 20, 21, 22, 26, 27, 28] [] sm_25_0_23_24_29_30_1_2_3_4_5_6_7_8_9_10_11_12_13_14_15_16_17_18_19_20_21_22_26_27_28 fm_25_0_23_24_29_30_1_2_3_4_5_6_7_8_9_10_11_12_13_14_15_16_17_18_19_20_21_22_26_27_28 nd_25_0_23_24_29_30_1_2_3_4_5_6_7_8_9_10_11_12_13_14_15_16_17_18_19_20_21_22_26_27_28 rfl rfl (by decide) rfl rfl rfl rfl rfl (Nat.le_of_ble_eq_true rfl) ⟨by simp only [RM]; omega, by simp only [RM]; omega⟩ ⟨Nat.le_of_ble_eq_true rfl, Nat.le_of_ble_eq_true rfl⟩ gX3_holdOrLeave_5.2.2.2.2.1 (Ktu15 fun jl12282 jb12283 gk02284 gk12285 gk22286 gk32287 gk42288 gk52289 gk62290 gk72291 gk82292 gk92293 gk102294 gk112295 gk122296 => ?_)
      intro H locs hr2280 hP hD hS
      try dsimp only at hr2280
      refine Kpdr (ws := [(h0, oX3 bb hd bo (nI jl12282) (nI jb12283)), (hd, cA G 13 hf), (kc0, oX1 km0), (km0, iA G 36 gk02284), (kc1, oX1 km1), (km1, iA G 36 gk12285), (kc2, oX1 km2), (km2, iA G 36 gk22286), (kc3, oX1 km3), (km3, iA G 36 gk32287), (kc4, oX1 km4), (km4, iA G 36 gk42288), (kc5, oX1 km5), (km5, iA G 36 gk52289), (kc6, oX1 km6), (km6, iA G 36 gk62290), (kc7, oX1 km7), (km7, iA G 36 gk72291), (kc8, oX1 km8), (km8, iA G 36 gk82292), (kc9, oX1 km9), (km9, iA G 36 gk92293), (kc10, oX1 km10), (km10, iA G 36 gk102294), (kc11, oX1 km11), (km11, iA G 36 gk112295), (kc12, oX1 km12), (km12, iA G 36 gk122296), (bb, oX0 bpersons bpapers bstamps bversions blines bsteps bsayings bfindings bwarnings bquestions td vd vl gp), (bstamps, oX8 24 3 bstampsc (nI kbstamps)), (bstampsc, iA G 72 fbstamps)]) hP hD (fun hP hD => ?_)
      have w2297 := hr2280
      refine toQ hQ0 ?_
      exact RV hC hP hD hS [0, 1, 2, 3, 4, 5, 6, 7, 8, 9, 10, 11, 12, 13, 14, 15, 16, 17, 18, 19, 20, 21, 22, 23, 24, 25, 26, 27, 28, 29, 30] (jl12282, jb12283, gk02284, gk12285, gk22286, gk32287, gk42288, gk52289, gk62290, gk72291, gk82292, gk92293, gk102294, gk112295, gk122296) rfl rfl (by decide) (⟨RES.seq hre8 w2297.1 (fun W9 => TRE.two hwj hj12) (fun V8 W8 => TRE.lt hwj hj12), hmk7.tr w2297.2⟩) gX3_holdOrLeave_5.2.2.2.2.2
  · have hl : lv_has ls 5 [(0, .ref h0), (1, .int (nI j)), (2, .int (nI jw)), (3, .int (nI jc)), (4, .int 1)] := hl
    refine lv_iload hx hb gX3_holdOrLeave_0.1 (lv_at4 hl) ?_
    refine lv_if_lt (tgt := 17) hx hb gX3_holdOrLeave_0.2.1 (by decide) (fun c9 => absurd c9 (by decide)) (fun _ => ?_)
    refine lv_iload hx hb gX3_holdOrLeave_0.2.2.1 (lv_at4 hl) ?_
    refine lv_iconst (v := 1) hx hb gX3_holdOrLeave_0.2.2.2.1 (by decide) ?_
    refine lv_iadd hx hb gX3_holdOrLeave_0.2.2.2.2.1 ?_
    refine eqi (x1 := 2) (by decide) ?_
    refine lv_aload_n hx hb gX3_holdOrLeave_0.2.2.2.2.2.1 rfl (lv_at0 hl) ?_
    refine gf_X3_11 hC rfl hK hP 0 rfl rfl gX3_holdOrLeave_0.2.2.2.2.2.2.1 ?_
    refine va_alen (v := 13) hx hb hK.1 hP 1 1 rfl rfl (show Int32.ofNat 13 = 13 by decide) gX3_holdOrLeave_0.2.2.2.2.2.2.2.1 ?_
    refine lv_icmp_lt (tgt := 18) hx hb gX3_holdOrLeave_0.2.2.2.2.2.2.2.2.1 (by decide) (fun _ => ?_) (fun c9 => absurd (by decide) c9)
    refine lv_aload_n hx hb gX3_holdOrLeave_1.1 rfl (lv_at0 hl) ?_
    refine gf_X3_11 hC rfl hK hP 0 rfl rfl gX3_holdOrLeave_1.2.1 ?_
    refine lv_iload hx hb gX3_holdOrLeave_1.2.2.1 (lv_at4 hl) ?_
    refine lv_iconst (v := 1) hx hb gX3_holdOrLeave_1.2.2.2.1 (by decide) ?_
    refine lv_iadd hx hb gX3_holdOrLeave_1.2.2.2.2.1 ?_
    refine eqi (x1 := 2) (by decide) ?_
    refine aldC hC hK hP 1 rfl (vin (by decide +kernel)) (k := 2) (by decide +kernel) (v := kc2) (hh2) gX3_holdOrLeave_1.2.2.2.2.2.1 ?_
    refine lv_aload_n hx hb gX3_holdOrLeave_1.2.2.2.2.2.2.1 rfl (lv_at0 hl) ?_
    refine gf_X3_11 hC rfl hK hP 0 rfl rfl gX3_holdOrLeave_1.2.2.2.2.2.2.2.1 ?_
    refine lv_iload hx hb gX3_holdOrLeave_1.2.2.2.2.2.2.2.2.1 (lv_at4 hl) ?_
    refine aldC hC hK hP 1 rfl (vin (by decide +kernel)) (k := 1) (by decide +kernel) (v := kc1) (hh1) gX3_holdOrLeave_1.2.2.2.2.2.2.2.2.2 ?_
    refine vV (wr := [(h0, oX3 bb hd bo (nI jl) (nI jb)), (hd, cA G 13 hf), (kc0, oX1 km0), (km0, iA G 36 fk0), (kc3, oX1 km3), (km3, iA G 36 fk3), (kc4, oX1 km4), (km4, iA G 36 fk4), (kc5, oX1 km5), (km5, iA G 36 fk5), (kc6, oX1 km6), (km6, iA G 36 fk6), (kc7, oX1 km7), (km7, iA G 36 fk7), (kc8, oX1 km8), (km8, iA G 36 fk8), (kc9, oX1 km9), (km9, iA G 36 fk9), (kc10, oX1 km10), (km10, iA G 36 fk10), (kc11, oX1 km11), (km11, iA G 36 fk11), (kc12, oX1 km12), (km12, iA G 36 fk12), (bb, oX0 bpersons bpapers bstamps bversions blines bsteps bsayings bfindings bwarnings bquestions td vd vl gp), (bstamps, oX8 24 3 bstampsc (nI kbstamps)), (bstampsc, iA G 72 fbstamps)]) hC hK hl hP hD hS hA (c_Cl_copyX l G kc2 kc1 km2 fk2 km1 fk1) si_X3_62 [6, 7, 4, 5] [0, 1, 2, 3, 8, 9, 10, 11, 12, 13, 14, 15, 16, 17, 18, 19, 20, 21, 22, 23, 24, 25, 26, 27, 28, 29, 30] sm_6_7_4_5 fm_6_7_4_5 nd_6_7_4_5 sm_0_1_2_3_8_9_10_11_12_13_14_15_16_17_18_19_20_21_22_23_24_25_26_27_28_29_30 nd_0_1_2_3_8_9_10_11_12_13_14_15_16_17_18_19_20_21_22_23_24_25_26_27_28_29_30 dj_6_7_4_5__0_1_2_3_8_9_10_11_12_13_14_15_16_17_18_19_20_21_22_23_24_25_26_27_28_29_30 rfl rfl rfl rfl rfl (Nat.le_of_ble_eq_true rfl) ⟨by simp only [RM]; omega, by simp only [RM]; omega⟩ ⟨Nat.le_of_ble_eq_true rfl, Nat.le_of_ble_eq_true rfl⟩ gX3_holdOrLeave_2.1 (fun f12300 H locs hr2298 hP hD hS => ?_)
    try dsimp only at hr2298
    refine Kpdr (ws := [(h0, oX3 bb hd bo (nI jl) (nI jb)), (hd, cA G 13 hf), (kc0, oX1 km0), (km0, iA G 36 fk0), (kc3, oX1 km3), (km3, iA G 36 fk3), (kc4, oX1 km4), (km4, iA G 36 fk4), (kc5, oX1 km5), (km5, iA G 36 fk5), (kc6, oX1 km6), (km6, iA G 36 fk6), (kc7, oX1 km7), (km7, iA G 36 fk7), (kc8, oX1 km8), (km8, iA G 36 fk8), (kc9, oX1 km9), (km9, iA G 36 fk9), (kc10, oX1 km10), (km10, iA G 36 fk10), (kc11, oX1 km11), (km11, iA G 36 fk11), (kc12, oX1 km12), (km12, iA G 36 fk12), (bb, oX0 bpersons bpapers bstamps bversions blines bsteps bsayings bfindings bwarnings bquestions td vd vl gp), (bstamps, oX8 24 3 bstampsc (nI kbstamps)), (bstampsc, iA G 72 fbstamps), (kc2, oX1 km2), (km2, iA G 36 f12300), (kc1, oX1 km1), (km1, iA G 36 fk1)]) hP hD (fun hP hD => ?_)
    have w2301 := hr2298
    refine lv_aload_n hx hb gX3_holdOrLeave_2.2.1 rfl (lv_at0 hl) ?_
    refine lv_iload_n hx hb gX3_holdOrLeave_2.2.2.1 rfl (lv_at1 hl) ?_
    refine lv_aload_n hx hb gX3_holdOrLeave_2.2.2.2.1 rfl (lv_at0 hl) ?_
    refine gf_X3_11 hC rfl hK hP 0 rfl rfl gX3_holdOrLeave_2.2.2.2.2.1 ?_
    refine lv_iload hx hb gX3_holdOrLeave_2.2.2.2.2.2.1 (lv_at4 hl) ?_
    refine lv_iconst (v := 1) hx hb gX3_holdOrLeave_2.2.2.2.2.2.2.1 (by decide) ?_
    refine lv_iadd hx hb gX3_holdOrLeave_2.2.2.2.2.2.2.2.1 ?_
    refine eqi (x1 := 2) (by decide) ?_
    refine aldC hC hK hP 1 rfl (vin (by decide +kernel)) (k := 2) (by decide +kernel) (v := kc2) (hh2) gX3_holdOrLeave_2.2.2.2.2.2.2.2.2.1 ?_
    have hcq9 : CLB (KHL fbstamps B9 gp.toInt kbstamps (j + 1) jw) (MAT f12300) := CLB.cg (f := fk1) hKH w2301
    refine iV (wr := [(hd, cA G 13 hf), (kc0, oX1 km0), (km0, iA G 36 fk0), (kc3, oX1 km3), (km3, iA G 36 fk3), (kc4, oX1 km4), (km4, iA G 36 fk4), (kc5, oX1 km5), (km5, iA G 36 fk5), (kc6, oX1 km6), (km6, iA G 36 fk6), (kc7, oX1 km7), (km7, iA G 36 fk7), (kc8, oX1 km8), (km8, iA G 36 fk8), (kc9, oX1 km9), (km9, iA G 36 fk9), (kc10, oX1 km10), (km10, iA G 36 fk10), (kc11, oX1 km11), (km11, iA G 36 fk11), (kc12, oX1 km12), (km12, iA G 36 fk12), (kc1, oX1 km1), (km1, iA G 36 fk1)]) hC hK hl hP hD hS hA (c_isRightX l G (KHL fbstamps B9 gp.toInt kbstamps (j + 1) jw) h0 j kc2 bb hd bo (nI jl) (nI jb) bpersons bpapers bstamps bversions blines bsteps bsayings bfindings bwarnings bquestions td vd vl gp bstampsc kbstamps fbstamps km2 f12300 (hkbstamps) (hcq9) (hSV) (hgp) (by omega)) si_X3_66 [0, 24, 25, 26, 27, 28] [1, 2, 3, 4, 5, 6, 7, 8, 9, 10, 11, 12, 13, 14, 15, 16, 17, 18, 19, 20, 21, 22, 23, 29, 30] sm_0_24_25_26_27_28 fm_0_24_25_26_27_28 nd_0_24_25_26_27_28 sm_1_2_3_4_5_6_7_8_9_10_11_12_13_14_15_16_17_18_19_20_21_22_23_29_30 nd_1_2_3_4_5_6_7_8_9_10_11_12_13_14_15_16_17_18_19_20_21_22_23_29_30 dj_0_24_25_26_27_28__1_2_3_4_5_6_7_8_9_10_11_12_13_14_15_16_17_18_19_20_21_22_23_29_30 rfl rfl rfl rfl rfl (Nat.le_of_ble_eq_true rfl) ⟨by simp only [RM]; omega, by simp only [RM]; omega⟩ ⟨Nat.le_of_ble_eq_true rfl, Nat.le_of_ble_eq_true rfl⟩ gX3_holdOrLeave_2.2.2.2.2.2.2.2.2.2 (fun r2302 gx2304 H locs hr2302 hP hD hS => ?_)
    try dsimp only at hr2302
    refine Kpdr (ws := [(hd, cA G 13 hf), (kc0, oX1 km0), (km0, iA G 36 fk0), (kc3, oX1 km3), (km3, iA G 36 fk3), (kc4, oX1 km4), (km4, iA G 36 fk4), (kc5, oX1 km5), (km5, iA G 36 fk5), (kc6, oX1 km6), (km6, iA G 36 fk6), (kc7, oX1 km7), (km7, iA G 36 fk7), (kc8, oX1 km8), (km8, iA G 36 fk8), (kc9, oX1 km9), (km9, iA G 36 fk9), (kc10, oX1 km10), (km10, iA G 36 fk10), (kc11, oX1 km11), (km11, iA G 36 fk11), (kc12, oX1 km12), (km12, iA G 36 fk12), (kc1, oX1 km1), (km1, iA G 36 fk1), (h0, oX3 bb hd bo (nI jl) (nI jb)), (bb, oX0 bpersons bpapers bstamps bversions blines bsteps bsayings bfindings bwarnings bquestions td vd vl gp), (bstamps, oX8 24 3 bstampsc (nI kbstamps)), (bstampsc, iA G 72 fbstamps), (kc2, oX1 km2), (km2, iA G 36 gx2304)]) hP hD (fun hP hD => ?_)
    rcases hr2302 with ⟨rfl, a2305⟩ | ⟨rfl, a2305⟩
    · refine lv_if_eq (tgt := 67) hx hb gX3_holdOrLeave_3.1 (by decide) (fun c9 => absurd c9 (by decide)) (fun _ => ?_)
      refine lv_aload_n hx hb gX3_holdOrLeave_3.2.1 rfl (lv_at0 hl) ?_
      refine lv_iload_n hx hb gX3_holdOrLeave_3.2.2.1 rfl (lv_at1 hl) ?_
      refine lv_iconst (v := 1) hx hb gX3_holdOrLeave_3.2.2.2.1 (by decide) ?_
      refine lv_isub hx hb gX3_holdOrLeave_3.2.2.2.2.1 ?_
      refine lv_iload_n hx hb gX3_holdOrLeave_3.2.2.2.2.2.1 rfl (lv_at2 hl) ?_
      refine lv_iload_n hx hb gX3_holdOrLeave_3.2.2.2.2.2.2.1 rfl (lv_at3 hl) ?_
      refine lv_iload hx hb gX3_holdOrLeave_3.2.2.2.2.2.2.2.1 (lv_at4 hl) ?_
      refine lv_iconst (v := 1) hx hb gX3_holdOrLeave_3.2.2.2.2.2.2.2.2.1 (by decide) ?_
      refine lv_iadd hx hb gX3_holdOrLeave_3.2.2.2.2.2.2.2.2.2 ?_
      refine eqi (x1 := 2) (by decide) ?_
      have hkn9 : CLB (KHL fbstamps B9 gp.toInt kbstamps j jw) (MAT (MGT [fk0, fk1, gx2304, fk3, fk4, fk5, fk6, fk7, fk8, fk9, fk10, fk11, fk12] 2)) := by have h9 := a2305; rw [KHL.hold hSV hbj hwj] at h9; exact h9
      have hmk8 : MKP [fk0, fk1, fk2, fk3, fk4, fk5, fk6, fk7, fk8, fk9, fk10, fk11, fk12] [fk0, fk1, gx2304, fk3, fk4, fk5, fk6, fk7, fk8, fk9, fk10, fk11, fk12] 1 := fun j9 h9 => by rcases (show j9 = 0 ∨ j9 = 1 by omega) with rfl | rfl <;> rfl
      refine vV (wr := []) hC hK hl hP hD hS hA (ihS j (by omega) V9 B9 h0 jw jc 2 bb hd bo jl jb hf kc0 km0 fk0 kc1 km1 fk1 kc2 km2 gx2304 kc3 km3 fk3 kc4 km4 fk4 kc5 km5 fk5 kc6 km6 fk6 kc7 km7 fk7 kc8 km8 fk8 kc9 km9 fk9 kc10 km10 fk10 kc11 km11 fk11 kc12 km12 fk12 bpersons bpapers bstamps bversions blines bsteps bsayings bfindings bwarnings bquestions td vd vl gp bstampsc kbstamps fbstamps (by omega) (by omega) hh0 hh1 hh2 hh3 hh4 hh5 hh6 hh7 hh8 hh9 hh10 hh11 hh12 hSV hgp hBV hVB hBB hWS.dn hCT hkn9 hjl) si_X3_55 [25, 0, 1, 2, 23, 24, 29, 30, 3, 4, 5, 6, 7, 8, 9, 10, 11, 12, 13, 14, 15, 16, 17, 18, 19, 20, 21, 22, 26, 27, 28] [] sm_25_0_1_2_23_24_29_30_3_4_5_6_7_8_9_10_11_12_13_14_15_16_17_18_19_20_21_22_26_27_28 fm_25_0_1_2_23_24_29_30_3_4_5_6_7_8_9_10_11_12_13_14_15_16_17_18_19_20_21_22_26_27_28 nd_25_0_1_2_23_24_29_30_3_4_5_6_7_8_9_10_11_12_13_14_15_16_17_18_19_20_21_22_26_27_28 rfl rfl (by decide) rfl rfl rfl rfl rfl (Nat.le_of_ble_eq_true rfl) ⟨by simp only [RM]; omega, by simp only [RM]; omega⟩ ⟨Nat.le_of_ble_eq_true rfl, Nat.le_of_ble_eq_true rfl⟩ gX3_holdOrLeave_4.1 (Ktu15 fun jl12308 jb12309 gk02310 gk12311 gk22312 gk32313 gk42314 gk52315 gk62316 gk72317 gk82318 gk92319 gk102320 gk112321 gk122322 => ?_)
      intro H locs hr2306 hP hD hS
      try dsimp only at hr2306
      refine Kpdr (ws := [(h0, oX3 bb hd bo (nI jl12308) (nI jb12309)), (hd, cA G 13 hf), (kc0, oX1 km0), (km0, iA G 36 gk02310), (kc1, oX1 km1), (km1, iA G 36 gk12311), (kc2, oX1 km2), (km2, iA G 36 gk22312), (kc3, oX1 km3), (km3, iA G 36 gk32313), (kc4, oX1 km4), (km4, iA G 36 gk42314), (kc5, oX1 km5), (km5, iA G 36 gk52315), (kc6, oX1 km6), (km6, iA G 36 gk62316), (kc7, oX1 km7), (km7, iA G 36 gk72317), (kc8, oX1 km8), (km8, iA G 36 gk82318), (kc9, oX1 km9), (km9, iA G 36 gk92319), (kc10, oX1 km10), (km10, iA G 36 gk102320), (kc11, oX1 km11), (km11, iA G 36 gk112321), (kc12, oX1 km12), (km12, iA G 36 gk122322), (bb, oX0 bpersons bpapers bstamps bversions blines bsteps bsayings bfindings bwarnings bquestions td vd vl gp), (bstamps, oX8 24 3 bstampsc (nI kbstamps)), (bstampsc, iA G 72 fbstamps)]) hP hD (fun hP hD => ?_)
      have w2323 := hr2306
      refine lv_aload_n hx hb gX3_holdOrLeave_4.2.1 rfl (lv_at0 hl) ?_
      refine lv_iload_n hx hb gX3_holdOrLeave_4.2.2.1 rfl (lv_at1 hl) ?_
      refine lv_iconst (v := 1) hx hb gX3_holdOrLeave_4.2.2.2.1 (by decide) ?_
      refine lv_isub hx hb gX3_holdOrLeave_4.2.2.2.2.1 ?_
      refine lv_iload_n hx hb gX3_holdOrLeave_4.2.2.2.2.2.1 rfl (lv_at2 hl) ?_
      refine lv_iconst (v := 1) hx hb gX3_holdOrLeave_4.2.2.2.2.2.2.1 (by decide) ?_
      refine lv_iload_n hx hb gX3_holdOrLeave_4.2.2.2.2.2.2.2.1 rfl (lv_at1 hl) ?_
      refine lv_ishl hx hb gX3_holdOrLeave_4.2.2.2.2.2.2.2.2.1 ?_
      refine lv_ior hx hb gX3_holdOrLeave_4.2.2.2.2.2.2.2.2.2 ?_
      refine eqi (x1 := nI (jw ||| 2 ^ j)) (nI_orb hj12) ?_
      refine lv_iload_n hx hb gX3_holdOrLeave_5.1 rfl (lv_at3 hl) ?_
      refine lv_iconst (v := 1) hx hb gX3_holdOrLeave_5.2.1 (by decide) ?_
      refine lv_iadd hx hb gX3_holdOrLeave_5.2.2.1 ?_
      refine eqi (x1 := nI (jc + 1)) (nI_1 jc) ?_
      refine lv_iload hx hb gX3_holdOrLeave_5.2.2.2.1 (lv_at4 hl) ?_
      have hre8 : RES (TRE B9 j jw) (GDW fbstamps V9 gp.toInt kbstamps) jl jb jl12308 jb12309 := w2323.1
      have hmk7 : MKP [fk0, fk1, fk2, fk3, fk4, fk5, fk6, fk7, fk8, fk9, fk10, fk11, fk12] [gk02310, gk12311, gk22312, gk32313, gk42314, gk52315, gk62316, gk72317, gk82318, gk92319, gk102320, gk112321, gk122322] 1 := hmk8.tr (w2323.2.le (by omega))
      have hle9 : jl12308 ≤ 13 := Nat.le_trans hre8.le hjl
      have hkm9 : CLB (KHL fbstamps B9 gp.toInt kbstamps j (jw ||| 2 ^ j)) (MAT (MGT [gk02310, gk12311, gk22312, gk32313, gk42314, gk52315, gk62316, gk72317, gk82318, gk92319, gk102320, gk112321, gk122322] 1)) := by rw [hmk7 1 (Nat.le_refl _), KHL.leave hSV]; exact hKH
      have hct9 : jc + 1 = PCN (jw ||| 2 ^ j) 12 := by rw [PCN.or hwj, if_pos hj12, hCT]
      refine vV (wr := []) hC hK hl hP hD hS hA (ihS j (by omega) V9 B9 h0 (jw ||| 2 ^ j) (jc + 1) 1 bb hd bo jl12308 jb12309 hf kc0 km0 gk02310 kc1 km1 gk12311 kc2 km2 gk22312 kc3 km3 gk32313 kc4 km4 gk42314 kc5 km5 gk52315 kc6 km6 gk62316 kc7 km7 gk72317 kc8 km8 gk82318 kc9 km9 gk92319 kc10 km10 gk102320 kc11 km11 gk112321 kc12 km12 gk122322 bpersons bpapers bstamps bversions blines bsteps bsayings bfindings bwarnings bquestions td vd vl gp bstampsc kbstamps fbstamps (by omega) (by omega) hh0 hh1 hh2 hh3 hh4 hh5 hh6 hh7 hh8 hh9 hh10 hh11 hh12 hSV hgp hBV hVB hBB (hWS.or hj12 hbj) hct9 hkm9 hle9) si_X3_55 [0, 1, 2, 3, 4, 5, 6, 7, 8, 9, 10, 11, 12, 13, 14, 15, 16, 17, 18, 19, 20, 21, 22, 23, 24, 25, 26, 27, 28, 29, 30] [] sm_0_1_2_3_4_5_6_7_8_9_10_11_12_13_14_15_16_17_18_19_20_21_22_23_24_25_26_27_28_29_30 fm_0_1_2_3_4_5_6_7_8_9_10_11_12_13_14_15_16_17_18_19_20_21_22_23_24_25_26_27_28_29_30 nd_0_1_2_3_4_5_6_7_8_9_10_11_12_13_14_15_16_17_18_19_20_21_22_23_24_25_26_27_28_29_30 rfl rfl (by decide) rfl rfl rfl rfl rfl (Nat.le_of_ble_eq_true rfl) ⟨by simp only [RM]; omega, by simp only [RM]; omega⟩ ⟨Nat.le_of_ble_eq_true rfl, Nat.le_of_ble_eq_true rfl⟩ gX3_holdOrLeave_5.2.2.2.2.1 (Ktu15 fun jl12326 jb12327 gk02328 gk12329 gk22330 gk32331 gk42332 gk52333 gk62334 gk72335 gk82336 gk92337 gk102338 gk112339 gk122340 => ?_)
      intro H locs hr2324 hP hD hS
      try dsimp only at hr2324
      refine Kpdr (ws := [(h0, oX3 bb hd bo (nI jl12326) (nI jb12327)), (hd, cA G 13 hf), (kc0, oX1 km0), (km0, iA G 36 gk02328), (kc1, oX1 km1), (km1, iA G 36 gk12329), (kc2, oX1 km2), (km2, iA G 36 gk22330), (kc3, oX1 km3), (km3, iA G 36 gk32331), (kc4, oX1 km4), (km4, iA G 36 gk42332), (kc5, oX1 km5), (km5, iA G 36 gk52333), (kc6, oX1 km6), (km6, iA G 36 gk62334), (kc7, oX1 km7), (km7, iA G 36 gk72335), (kc8, oX1 km8), (km8, iA G 36 gk82336), (kc9, oX1 km9), (km9, iA G 36 gk92337), (kc10, oX1 km10), (km10, iA G 36 gk102338), (kc11, oX1 km11), (km11, iA G 36 gk112339), (kc12, oX1 km12), (km12, iA G 36 gk122340), (bb, oX0 bpersons bpapers bstamps bversions blines bsteps bsayings bfindings bwarnings bquestions td vd vl gp), (bstamps, oX8 24 3 bstampsc (nI kbstamps)), (bstampsc, iA G 72 fbstamps)]) hP hD (fun hP hD => ?_)
      have w2341 := hr2324
      refine toQ hQ0 ?_
      exact RV hC hP hD hS [0, 1, 2, 3, 4, 5, 6, 7, 8, 9, 10, 11, 12, 13, 14, 15, 16, 17, 18, 19, 20, 21, 22, 23, 24, 25, 26, 27, 28, 29, 30] (jl12326, jb12327, gk02328, gk12329, gk22330, gk32331, gk42332, gk52333, gk62334, gk72335, gk82336, gk92337, gk102338, gk112339, gk122340) rfl rfl (by decide) (⟨RES.seq hre8 w2341.1 (fun W9 => TRE.two hwj hj12) (fun V8 W8 => TRE.lt hwj hj12), hmk7.tr w2341.2⟩) gX3_holdOrLeave_5.2.2.2.2.2
    · refine lv_if_eq (tgt := 67) hx hb gX3_holdOrLeave_3.1 (by decide) (fun _ => ?_) (fun c9 => absurd (by decide) c9)
      refine lv_aload_n hx hb gX3_holdOrLeave_4.2.1 rfl (lv_at0 hl) ?_
      refine lv_iload_n hx hb gX3_holdOrLeave_4.2.2.1 rfl (lv_at1 hl) ?_
      refine lv_iconst (v := 1) hx hb gX3_holdOrLeave_4.2.2.2.1 (by decide) ?_
      refine lv_isub hx hb gX3_holdOrLeave_4.2.2.2.2.1 ?_
      refine lv_iload_n hx hb gX3_holdOrLeave_4.2.2.2.2.2.1 rfl (lv_at2 hl) ?_
      refine lv_iconst (v := 1) hx hb gX3_holdOrLeave_4.2.2.2.2.2.2.1 (by decide) ?_
      refine lv_iload_n hx hb gX3_holdOrLeave_4.2.2.2.2.2.2.2.1 rfl (lv_at1 hl) ?_
      refine lv_ishl hx hb gX3_holdOrLeave_4.2.2.2.2.2.2.2.2.1 ?_
      refine lv_ior hx hb gX3_holdOrLeave_4.2.2.2.2.2.2.2.2.2 ?_
      refine eqi (x1 := nI (jw ||| 2 ^ j)) (nI_orb hj12) ?_
      refine lv_iload_n hx hb gX3_holdOrLeave_5.1 rfl (lv_at3 hl) ?_
      refine lv_iconst (v := 1) hx hb gX3_holdOrLeave_5.2.1 (by decide) ?_
      refine lv_iadd hx hb gX3_holdOrLeave_5.2.2.1 ?_
      refine eqi (x1 := nI (jc + 1)) (nI_1 jc) ?_
      refine lv_iload hx hb gX3_holdOrLeave_5.2.2.2.1 (lv_at4 hl) ?_
      have hno9 : NOS (KHL fbstamps B9 gp.toInt kbstamps j jw) := by have h9 := a2305; rw [KHL.hold hSV hbj hwj] at h9; exact h9
      have hre8 : RES (TRE B9 j jw) (GDW fbstamps V9 gp.toInt kbstamps) jl jb jl jb := RES.none (fun W9 h8 h9 => absurd h9 (KHL.none hSV hBV hno9 h8))
      have hmk7 : MKP [fk0, fk1, fk2, fk3, fk4, fk5, fk6, fk7, fk8, fk9, fk10, fk11, fk12] [fk0, fk1, gx2304, fk3, fk4, fk5, fk6, fk7, fk8, fk9, fk10, fk11, fk12] 1 := fun j9 h9 => by rcases (show j9 = 0 ∨ j9 = 1 by omega) with rfl | rfl <;> rfl
      have hle9 : jl ≤ 13 := Nat.le_trans hre8.le hjl
      have hkm9 : CLB (KHL fbstamps B9 gp.toInt kbstamps j (jw ||| 2 ^ j)) (MAT (MGT [fk0, fk1, gx2304, fk3, fk4, fk5, fk6, fk7, fk8, fk9, fk10, fk11, fk12] 1)) := by rw [hmk7 1 (Nat.le_refl _), KHL.leave hSV]; exact hKH
      have hct9 : jc + 1 = PCN (jw ||| 2 ^ j) 12 := by rw [PCN.or hwj, if_pos hj12, hCT]
      refine vV (wr := []) hC hK hl hP hD hS hA (ihS j (by omega) V9 B9 h0 (jw ||| 2 ^ j) (jc + 1) 1 bb hd bo jl jb hf kc0 km0 fk0 kc1 km1 fk1 kc2 km2 gx2304 kc3 km3 fk3 kc4 km4 fk4 kc5 km5 fk5 kc6 km6 fk6 kc7 km7 fk7 kc8 km8 fk8 kc9 km9 fk9 kc10 km10 fk10 kc11 km11 fk11 kc12 km12 fk12 bpersons bpapers bstamps bversions blines bsteps bsayings bfindings bwarnings bquestions td vd vl gp bstampsc kbstamps fbstamps (by omega) (by omega) hh0 hh1 hh2 hh3 hh4 hh5 hh6 hh7 hh8 hh9 hh10 hh11 hh12 hSV hgp hBV hVB hBB (hWS.or hj12 hbj) hct9 hkm9 hle9) si_X3_55 [25, 0, 1, 2, 23, 24, 29, 30, 3, 4, 5, 6, 7, 8, 9, 10, 11, 12, 13, 14, 15, 16, 17, 18, 19, 20, 21, 22, 26, 27, 28] [] sm_25_0_1_2_23_24_29_30_3_4_5_6_7_8_9_10_11_12_13_14_15_16_17_18_19_20_21_22_26_27_28 fm_25_0_1_2_23_24_29_30_3_4_5_6_7_8_9_10_11_12_13_14_15_16_17_18_19_20_21_22_26_27_28 nd_25_0_1_2_23_24_29_30_3_4_5_6_7_8_9_10_11_12_13_14_15_16_17_18_19_20_21_22_26_27_28 rfl rfl (by decide) rfl rfl rfl rfl rfl (Nat.le_of_ble_eq_true rfl) ⟨by simp only [RM]; omega, by simp only [RM]; omega⟩ ⟨Nat.le_of_ble_eq_true rfl, Nat.le_of_ble_eq_true rfl⟩ gX3_holdOrLeave_5.2.2.2.2.1 (Ktu15 fun jl12344 jb12345 gk02346 gk12347 gk22348 gk32349 gk42350 gk52351 gk62352 gk72353 gk82354 gk92355 gk102356 gk112357 gk122358 => ?_)
      intro H locs hr2342 hP hD hS
      try dsimp only at hr2342
      refine Kpdr (ws := [(h0, oX3 bb hd bo (nI jl12344) (nI jb12345)), (hd, cA G 13 hf), (kc0, oX1 km0), (km0, iA G 36 gk02346), (kc1, oX1 km1), (km1, iA G 36 gk12347), (kc2, oX1 km2), (km2, iA G 36 gk22348), (kc3, oX1 km3), (km3, iA G 36 gk32349), (kc4, oX1 km4), (km4, iA G 36 gk42350), (kc5, oX1 km5), (km5, iA G 36 gk52351), (kc6, oX1 km6), (km6, iA G 36 gk62352), (kc7, oX1 km7), (km7, iA G 36 gk72353), (kc8, oX1 km8), (km8, iA G 36 gk82354), (kc9, oX1 km9), (km9, iA G 36 gk92355), (kc10, oX1 km10), (km10, iA G 36 gk102356), (kc11, oX1 km11), (km11, iA G 36 gk112357), (kc12, oX1 km12), (km12, iA G 36 gk122358), (bb, oX0 bpersons bpapers bstamps bversions blines bsteps bsayings bfindings bwarnings bquestions td vd vl gp), (bstamps, oX8 24 3 bstampsc (nI kbstamps)), (bstampsc, iA G 72 fbstamps)]) hP hD (fun hP hD => ?_)
      have w2359 := hr2342
      refine toQ hQ0 ?_
      exact RV hC hP hD hS [0, 1, 2, 3, 4, 5, 6, 7, 8, 9, 10, 11, 12, 13, 14, 15, 16, 17, 18, 19, 20, 21, 22, 23, 24, 25, 26, 27, 28, 29, 30] (jl12344, jb12345, gk02346, gk12347, gk22348, gk32349, gk42350, gk52351, gk62352, gk72353, gk82354, gk92355, gk102356, gk112357, gk122358) rfl rfl (by decide) (⟨RES.seq hre8 w2359.1 (fun W9 => TRE.two hwj hj12) (fun V8 W8 => TRE.lt hwj hj12), hmk7.tr w2359.2⟩) gX3_holdOrLeave_5.2.2.2.2.2
  · have hl : lv_has ls 5 [(0, .ref h0), (1, .int (nI j)), (2, .int (nI jw)), (3, .int (nI jc)), (4, .int 2)] := hl
    refine lv_iload hx hb gX3_holdOrLeave_0.1 (lv_at4 hl) ?_
    refine lv_if_lt (tgt := 17) hx hb gX3_holdOrLeave_0.2.1 (by decide) (fun c9 => absurd c9 (by decide)) (fun _ => ?_)
    refine lv_iload hx hb gX3_holdOrLeave_0.2.2.1 (lv_at4 hl) ?_
    refine lv_iconst (v := 1) hx hb gX3_holdOrLeave_0.2.2.2.1 (by decide) ?_
    refine lv_iadd hx hb gX3_holdOrLeave_0.2.2.2.2.1 ?_
    refine eqi (x1 := 3) (by decide) ?_
    refine lv_aload_n hx hb gX3_holdOrLeave_0.2.2.2.2.2.1 rfl (lv_at0 hl) ?_
    refine gf_X3_11 hC rfl hK hP 0 rfl rfl gX3_holdOrLeave_0.2.2.2.2.2.2.1 ?_
    refine va_alen (v := 13) hx hb hK.1 hP 1 1 rfl rfl (show Int32.ofNat 13 = 13 by decide) gX3_holdOrLeave_0.2.2.2.2.2.2.2.1 ?_
    refine lv_icmp_lt (tgt := 18) hx hb gX3_holdOrLeave_0.2.2.2.2.2.2.2.2.1 (by decide) (fun _ => ?_) (fun c9 => absurd (by decide) c9)
    refine lv_aload_n hx hb gX3_holdOrLeave_1.1 rfl (lv_at0 hl) ?_
    refine gf_X3_11 hC rfl hK hP 0 rfl rfl gX3_holdOrLeave_1.2.1 ?_
    refine lv_iload hx hb gX3_holdOrLeave_1.2.2.1 (lv_at4 hl) ?_
    refine lv_iconst (v := 1) hx hb gX3_holdOrLeave_1.2.2.2.1 (by decide) ?_
    refine lv_iadd hx hb gX3_holdOrLeave_1.2.2.2.2.1 ?_
    refine eqi (x1 := 3) (by decide) ?_
    refine aldC hC hK hP 1 rfl (vin (by decide +kernel)) (k := 3) (by decide +kernel) (v := kc3) (hh3) gX3_holdOrLeave_1.2.2.2.2.2.1 ?_
    refine lv_aload_n hx hb gX3_holdOrLeave_1.2.2.2.2.2.2.1 rfl (lv_at0 hl) ?_
    refine gf_X3_11 hC rfl hK hP 0 rfl rfl gX3_holdOrLeave_1.2.2.2.2.2.2.2.1 ?_
    refine lv_iload hx hb gX3_holdOrLeave_1.2.2.2.2.2.2.2.2.1 (lv_at4 hl) ?_
    refine aldC hC hK hP 1 rfl (vin (by decide +kernel)) (k := 2) (by decide +kernel) (v := kc2) (hh2) gX3_holdOrLeave_1.2.2.2.2.2.2.2.2.2 ?_
    refine vV (wr := [(h0, oX3 bb hd bo (nI jl) (nI jb)), (hd, cA G 13 hf), (kc0, oX1 km0), (km0, iA G 36 fk0), (kc1, oX1 km1), (km1, iA G 36 fk1), (kc4, oX1 km4), (km4, iA G 36 fk4), (kc5, oX1 km5), (km5, iA G 36 fk5), (kc6, oX1 km6), (km6, iA G 36 fk6), (kc7, oX1 km7), (km7, iA G 36 fk7), (kc8, oX1 km8), (km8, iA G 36 fk8), (kc9, oX1 km9), (km9, iA G 36 fk9), (kc10, oX1 km10), (km10, iA G 36 fk10), (kc11, oX1 km11), (km11, iA G 36 fk11), (kc12, oX1 km12), (km12, iA G 36 fk12), (bb, oX0 bpersons bpapers bstamps bversions blines bsteps bsayings bfindings bwarnings bquestions td vd vl gp), (bstamps, oX8 24 3 bstampsc (nI kbstamps)), (bstampsc, iA G 72 fbstamps)]) hC hK hl hP hD hS hA (c_Cl_copyX l G kc3 kc2 km3 fk3 km2 fk2) si_X3_62 [8, 9, 6, 7] [0, 1, 2, 3, 4, 5, 10, 11, 12, 13, 14, 15, 16, 17, 18, 19, 20, 21, 22, 23, 24, 25, 26, 27, 28, 29, 30] sm_8_9_6_7 fm_8_9_6_7 nd_8_9_6_7 sm_0_1_2_3_4_5_10_11_12_13_14_15_16_17_18_19_20_21_22_23_24_25_26_27_28_29_30 nd_0_1_2_3_4_5_10_11_12_13_14_15_16_17_18_19_20_21_22_23_24_25_26_27_28_29_30 dj_8_9_6_7__0_1_2_3_4_5_10_11_12_13_14_15_16_17_18_19_20_21_22_23_24_25_26_27_28_29_30 rfl rfl rfl rfl rfl (Nat.le_of_ble_eq_true rfl) ⟨by simp only [RM]; omega, by simp only [RM]; omega⟩ ⟨Nat.le_of_ble_eq_true rfl, Nat.le_of_ble_eq_true rfl⟩ gX3_holdOrLeave_2.1 (fun f12362 H locs hr2360 hP hD hS => ?_)
    try dsimp only at hr2360
    refine Kpdr (ws := [(h0, oX3 bb hd bo (nI jl) (nI jb)), (hd, cA G 13 hf), (kc0, oX1 km0), (km0, iA G 36 fk0), (kc1, oX1 km1), (km1, iA G 36 fk1), (kc4, oX1 km4), (km4, iA G 36 fk4), (kc5, oX1 km5), (km5, iA G 36 fk5), (kc6, oX1 km6), (km6, iA G 36 fk6), (kc7, oX1 km7), (km7, iA G 36 fk7), (kc8, oX1 km8), (km8, iA G 36 fk8), (kc9, oX1 km9), (km9, iA G 36 fk9), (kc10, oX1 km10), (km10, iA G 36 fk10), (kc11, oX1 km11), (km11, iA G 36 fk11), (kc12, oX1 km12), (km12, iA G 36 fk12), (bb, oX0 bpersons bpapers bstamps bversions blines bsteps bsayings bfindings bwarnings bquestions td vd vl gp), (bstamps, oX8 24 3 bstampsc (nI kbstamps)), (bstampsc, iA G 72 fbstamps), (kc3, oX1 km3), (km3, iA G 36 f12362), (kc2, oX1 km2), (km2, iA G 36 fk2)]) hP hD (fun hP hD => ?_)
    have w2363 := hr2360
    refine lv_aload_n hx hb gX3_holdOrLeave_2.2.1 rfl (lv_at0 hl) ?_
    refine lv_iload_n hx hb gX3_holdOrLeave_2.2.2.1 rfl (lv_at1 hl) ?_
    refine lv_aload_n hx hb gX3_holdOrLeave_2.2.2.2.1 rfl (lv_at0 hl) ?_
    refine gf_X3_11 hC rfl hK hP 0 rfl rfl gX3_holdOrLeave_2.2.2.2.2.1 ?_
    refine lv_iload hx hb gX3_holdOrLeave_2.2.2.2.2.2.1 (lv_at4 hl) ?_
    refine lv_iconst (v := 1) hx hb gX3_holdOrLeave_2.2.2.2.2.2.2.1 (by decide) ?_
    refine lv_iadd hx hb gX3_holdOrLeave_2.2.2.2.2.2.2.2.1 ?_
    refine eqi (x1 := 3) (by decide) ?_
    refine aldC hC hK hP 1 rfl (vin (by decide +kernel)) (k := 3) (by decide +kernel) (v := kc3) (hh3) gX3_holdOrLeave_2.2.2.2.2.2.2.2.2.1 ?_
    have hcq9 : CLB (KHL fbstamps B9 gp.toInt kbstamps (j + 1) jw) (MAT f12362) := CLB.cg (f := fk2) hKH w2363
    refine iV (wr := [(hd, cA G 13 hf), (kc0, oX1 km0), (km0, iA G 36 fk0), (kc1, oX1 km1), (km1, iA G 36 fk1), (kc4, oX1 km4), (km4, iA G 36 fk4), (kc5, oX1 km5), (km5, iA G 36 fk5), (kc6, oX1 km6), (km6, iA G 36 fk6), (kc7, oX1 km7), (km7, iA G 36 fk7), (kc8, oX1 km8), (km8, iA G 36 fk8), (kc9, oX1 km9), (km9, iA G 36 fk9), (kc10, oX1 km10), (km10, iA G 36 fk10), (kc11, oX1 km11), (km11, iA G 36 fk11), (kc12, oX1 km12), (km12, iA G 36 fk12), (kc2, oX1 km2), (km2, iA G 36 fk2)]) hC hK hl hP hD hS hA (c_isRightX l G (KHL fbstamps B9 gp.toInt kbstamps (j + 1) jw) h0 j kc3 bb hd bo (nI jl) (nI jb) bpersons bpapers bstamps bversions blines bsteps bsayings bfindings bwarnings bquestions td vd vl gp bstampsc kbstamps fbstamps km3 f12362 (hkbstamps) (hcq9) (hSV) (hgp) (by omega)) si_X3_66 [0, 24, 25, 26, 27, 28] [1, 2, 3, 4, 5, 6, 7, 8, 9, 10, 11, 12, 13, 14, 15, 16, 17, 18, 19, 20, 21, 22, 23, 29, 30] sm_0_24_25_26_27_28 fm_0_24_25_26_27_28 nd_0_24_25_26_27_28 sm_1_2_3_4_5_6_7_8_9_10_11_12_13_14_15_16_17_18_19_20_21_22_23_29_30 nd_1_2_3_4_5_6_7_8_9_10_11_12_13_14_15_16_17_18_19_20_21_22_23_29_30 dj_0_24_25_26_27_28__1_2_3_4_5_6_7_8_9_10_11_12_13_14_15_16_17_18_19_20_21_22_23_29_30 rfl rfl rfl rfl rfl (Nat.le_of_ble_eq_true rfl) ⟨by simp only [RM]; omega, by simp only [RM]; omega⟩ ⟨Nat.le_of_ble_eq_true rfl, Nat.le_of_ble_eq_true rfl⟩ gX3_holdOrLeave_2.2.2.2.2.2.2.2.2.2 (fun r2364 gx2366 H locs hr2364 hP hD hS => ?_)
    try dsimp only at hr2364
    refine Kpdr (ws := [(hd, cA G 13 hf), (kc0, oX1 km0), (km0, iA G 36 fk0), (kc1, oX1 km1), (km1, iA G 36 fk1), (kc4, oX1 km4), (km4, iA G 36 fk4), (kc5, oX1 km5), (km5, iA G 36 fk5), (kc6, oX1 km6), (km6, iA G 36 fk6), (kc7, oX1 km7), (km7, iA G 36 fk7), (kc8, oX1 km8), (km8, iA G 36 fk8), (kc9, oX1 km9), (km9, iA G 36 fk9), (kc10, oX1 km10), (km10, iA G 36 fk10), (kc11, oX1 km11), (km11, iA G 36 fk11), (kc12, oX1 km12), (km12, iA G 36 fk12), (kc2, oX1 km2), (km2, iA G 36 fk2), (h0, oX3 bb hd bo (nI jl) (nI jb)), (bb, oX0 bpersons bpapers bstamps bversions blines bsteps bsayings bfindings bwarnings bquestions td vd vl gp), (bstamps, oX8 24 3 bstampsc (nI kbstamps)), (bstampsc, iA G 72 fbstamps), (kc3, oX1 km3), (km3, iA G 36 gx2366)]) hP hD (fun hP hD => ?_)
    rcases hr2364 with ⟨rfl, a2367⟩ | ⟨rfl, a2367⟩
    · refine lv_if_eq (tgt := 67) hx hb gX3_holdOrLeave_3.1 (by decide) (fun c9 => absurd c9 (by decide)) (fun _ => ?_)
      refine lv_aload_n hx hb gX3_holdOrLeave_3.2.1 rfl (lv_at0 hl) ?_
      refine lv_iload_n hx hb gX3_holdOrLeave_3.2.2.1 rfl (lv_at1 hl) ?_
      refine lv_iconst (v := 1) hx hb gX3_holdOrLeave_3.2.2.2.1 (by decide) ?_
      refine lv_isub hx hb gX3_holdOrLeave_3.2.2.2.2.1 ?_
      refine lv_iload_n hx hb gX3_holdOrLeave_3.2.2.2.2.2.1 rfl (lv_at2 hl) ?_
      refine lv_iload_n hx hb gX3_holdOrLeave_3.2.2.2.2.2.2.1 rfl (lv_at3 hl) ?_
      refine lv_iload hx hb gX3_holdOrLeave_3.2.2.2.2.2.2.2.1 (lv_at4 hl) ?_
      refine lv_iconst (v := 1) hx hb gX3_holdOrLeave_3.2.2.2.2.2.2.2.2.1 (by decide) ?_
      refine lv_iadd hx hb gX3_holdOrLeave_3.2.2.2.2.2.2.2.2.2 ?_
      refine eqi (x1 := 3) (by decide) ?_
      have hkn9 : CLB (KHL fbstamps B9 gp.toInt kbstamps j jw) (MAT (MGT [fk0, fk1, fk2, gx2366, fk4, fk5, fk6, fk7, fk8, fk9, fk10, fk11, fk12] 3)) := by have h9 := a2367; rw [KHL.hold hSV hbj hwj] at h9; exact h9
      have hmk8 : MKP [fk0, fk1, fk2, fk3, fk4, fk5, fk6, fk7, fk8, fk9, fk10, fk11, fk12] [fk0, fk1, fk2, gx2366, fk4, fk5, fk6, fk7, fk8, fk9, fk10, fk11, fk12] 2 := fun j9 h9 => by rcases (show j9 = 0 ∨ j9 = 1 ∨ j9 = 2 by omega) with rfl | rfl | rfl <;> rfl
      refine vV (wr := []) hC hK hl hP hD hS hA (ihS j (by omega) V9 B9 h0 jw jc 3 bb hd bo jl jb hf kc0 km0 fk0 kc1 km1 fk1 kc2 km2 fk2 kc3 km3 gx2366 kc4 km4 fk4 kc5 km5 fk5 kc6 km6 fk6 kc7 km7 fk7 kc8 km8 fk8 kc9 km9 fk9 kc10 km10 fk10 kc11 km11 fk11 kc12 km12 fk12 bpersons bpapers bstamps bversions blines bsteps bsayings bfindings bwarnings bquestions td vd vl gp bstampsc kbstamps fbstamps (by omega) (by omega) hh0 hh1 hh2 hh3 hh4 hh5 hh6 hh7 hh8 hh9 hh10 hh11 hh12 hSV hgp hBV hVB hBB hWS.dn hCT hkn9 hjl) si_X3_55 [25, 0, 1, 2, 3, 4, 23, 24, 29, 30, 5, 6, 7, 8, 9, 10, 11, 12, 13, 14, 15, 16, 17, 18, 19, 20, 21, 22, 26, 27, 28] [] sm_25_0_1_2_3_4_23_24_29_30_5_6_7_8_9_10_11_12_13_14_15_16_17_18_19_20_21_22_26_27_28 fm_25_0_1_2_3_4_23_24_29_30_5_6_7_8_9_10_11_12_13_14_15_16_17_18_19_20_21_22_26_27_28 nd_25_0_1_2_3_4_23_24_29_30_5_6_7_8_9_10_11_12_13_14_15_16_17_18_19_20_21_22_26_27_28 rfl rfl (by decide) rfl rfl rfl rfl rfl (Nat.le_of_ble_eq_true rfl) ⟨by simp only [RM]; omega, by simp only [RM]; omega⟩ ⟨Nat.le_of_ble_eq_true rfl, Nat.le_of_ble_eq_true rfl⟩ gX3_holdOrLeave_4.1 (Ktu15 fun jl12370 jb12371 gk02372 gk12373 gk22374 gk32375 gk42376 gk52377 gk62378 gk72379 gk82380 gk92381 gk102382 gk112383 gk122384 => ?_)
      intro H locs hr2368 hP hD hS
      try dsimp only at hr2368
      refine Kpdr (ws := [(h0, oX3 bb hd bo (nI jl12370) (nI jb12371)), (hd, cA G 13 hf), (kc0, oX1 km0), (km0, iA G 36 gk02372), (kc1, oX1 km1), (km1, iA G 36 gk12373), (kc2, oX1 km2), (km2, iA G 36 gk22374), (kc3, oX1 km3), (km3, iA G 36 gk32375), (kc4, oX1 km4), (km4, iA G 36 gk42376), (kc5, oX1 km5), (km5, iA G 36 gk52377), (kc6, oX1 km6), (km6, iA G 36 gk62378), (kc7, oX1 km7), (km7, iA G 36 gk72379), (kc8, oX1 km8), (km8, iA G 36 gk82380), (kc9, oX1 km9), (km9, iA G 36 gk92381), (kc10, oX1 km10), (km10, iA G 36 gk102382), (kc11, oX1 km11), (km11, iA G 36 gk112383), (kc12, oX1 km12), (km12, iA G 36 gk122384), (bb, oX0 bpersons bpapers bstamps bversions blines bsteps bsayings bfindings bwarnings bquestions td vd vl gp), (bstamps, oX8 24 3 bstampsc (nI kbstamps)), (bstampsc, iA G 72 fbstamps)]) hP hD (fun hP hD => ?_)
      have w2385 := hr2368
      refine lv_aload_n hx hb gX3_holdOrLeave_4.2.1 rfl (lv_at0 hl) ?_
      refine lv_iload_n hx hb gX3_holdOrLeave_4.2.2.1 rfl (lv_at1 hl) ?_
      refine lv_iconst (v := 1) hx hb gX3_holdOrLeave_4.2.2.2.1 (by decide) ?_
      refine lv_isub hx hb gX3_holdOrLeave_4.2.2.2.2.1 ?_
      refine lv_iload_n hx hb gX3_holdOrLeave_4.2.2.2.2.2.1 rfl (lv_at2 hl) ?_
      refine lv_iconst (v := 1) hx hb gX3_holdOrLeave_4.2.2.2.2.2.2.1 (by decide) ?_
      refine lv_iload_n hx hb gX3_holdOrLeave_4.2.2.2.2.2.2.2.1 rfl (lv_at1 hl) ?_
      refine lv_ishl hx hb gX3_holdOrLeave_4.2.2.2.2.2.2.2.2.1 ?_
      refine lv_ior hx hb gX3_holdOrLeave_4.2.2.2.2.2.2.2.2.2 ?_
      refine eqi (x1 := nI (jw ||| 2 ^ j)) (nI_orb hj12) ?_
      refine lv_iload_n hx hb gX3_holdOrLeave_5.1 rfl (lv_at3 hl) ?_
      refine lv_iconst (v := 1) hx hb gX3_holdOrLeave_5.2.1 (by decide) ?_
      refine lv_iadd hx hb gX3_holdOrLeave_5.2.2.1 ?_
      refine eqi (x1 := nI (jc + 1)) (nI_1 jc) ?_
      refine lv_iload hx hb gX3_holdOrLeave_5.2.2.2.1 (lv_at4 hl) ?_
      have hre8 : RES (TRE B9 j jw) (GDW fbstamps V9 gp.toInt kbstamps) jl jb jl12370 jb12371 := w2385.1
      have hmk7 : MKP [fk0, fk1, fk2, fk3, fk4, fk5, fk6, fk7, fk8, fk9, fk10, fk11, fk12] [gk02372, gk12373, gk22374, gk32375, gk42376, gk52377, gk62378, gk72379, gk82380, gk92381, gk102382, gk112383, gk122384] 2 := hmk8.tr (w2385.2.le (by omega))
      have hle9 : jl12370 ≤ 13 := Nat.le_trans hre8.le hjl
      have hkm9 : CLB (KHL fbstamps B9 gp.toInt kbstamps j (jw ||| 2 ^ j)) (MAT (MGT [gk02372, gk12373, gk22374, gk32375, gk42376, gk52377, gk62378, gk72379, gk82380, gk92381, gk102382, gk112383, gk122384] 2)) := by rw [hmk7 2 (Nat.le_refl _), KHL.leave hSV]; exact hKH
      have hct9 : jc + 1 = PCN (jw ||| 2 ^ j) 12 := by rw [PCN.or hwj, if_pos hj12, hCT]
      refine vV (wr := []) hC hK hl hP hD hS hA (ihS j (by omega) V9 B9 h0 (jw ||| 2 ^ j) (jc + 1) 2 bb hd bo jl12370 jb12371 hf kc0 km0 gk02372 kc1 km1 gk12373 kc2 km2 gk22374 kc3 km3 gk32375 kc4 km4 gk42376 kc5 km5 gk52377 kc6 km6 gk62378 kc7 km7 gk72379 kc8 km8 gk82380 kc9 km9 gk92381 kc10 km10 gk102382 kc11 km11 gk112383 kc12 km12 gk122384 bpersons bpapers bstamps bversions blines bsteps bsayings bfindings bwarnings bquestions td vd vl gp bstampsc kbstamps fbstamps (by omega) (by omega) hh0 hh1 hh2 hh3 hh4 hh5 hh6 hh7 hh8 hh9 hh10 hh11 hh12 hSV hgp hBV hVB hBB (hWS.or hj12 hbj) hct9 hkm9 hle9) si_X3_55 [0, 1, 2, 3, 4, 5, 6, 7, 8, 9, 10, 11, 12, 13, 14, 15, 16, 17, 18, 19, 20, 21, 22, 23, 24, 25, 26, 27, 28, 29, 30] [] sm_0_1_2_3_4_5_6_7_8_9_10_11_12_13_14_15_16_17_18_19_20_21_22_23_24_25_26_27_28_29_30 fm_0_1_2_3_4_5_6_7_8_9_10_11_12_13_14_15_16_17_18_19_20_21_22_23_24_25_26_27_28_29_30 nd_0_1_2_3_4_5_6_7_8_9_10_11_12_13_14_15_16_17_18_19_20_21_22_23_24_25_26_27_28_29_30 rfl rfl (by decide) rfl rfl rfl rfl rfl (Nat.le_of_ble_eq_true rfl) ⟨by simp only [RM]; omega, by simp only [RM]; omega⟩ ⟨Nat.le_of_ble_eq_true rfl, Nat.le_of_ble_eq_true rfl⟩ gX3_holdOrLeave_5.2.2.2.2.1 (Ktu15 fun jl12388 jb12389 gk02390 gk12391 gk22392 gk32393 gk42394 gk52395 gk62396 gk72397 gk82398 gk92399 gk102400 gk112401 gk122402 => ?_)
      intro H locs hr2386 hP hD hS
      try dsimp only at hr2386
      refine Kpdr (ws := [(h0, oX3 bb hd bo (nI jl12388) (nI jb12389)), (hd, cA G 13 hf), (kc0, oX1 km0), (km0, iA G 36 gk02390), (kc1, oX1 km1), (km1, iA G 36 gk12391), (kc2, oX1 km2), (km2, iA G 36 gk22392), (kc3, oX1 km3), (km3, iA G 36 gk32393), (kc4, oX1 km4), (km4, iA G 36 gk42394), (kc5, oX1 km5), (km5, iA G 36 gk52395), (kc6, oX1 km6), (km6, iA G 36 gk62396), (kc7, oX1 km7), (km7, iA G 36 gk72397), (kc8, oX1 km8), (km8, iA G 36 gk82398), (kc9, oX1 km9), (km9, iA G 36 gk92399), (kc10, oX1 km10), (km10, iA G 36 gk102400), (kc11, oX1 km11), (km11, iA G 36 gk112401), (kc12, oX1 km12), (km12, iA G 36 gk122402), (bb, oX0 bpersons bpapers bstamps bversions blines bsteps bsayings bfindings bwarnings bquestions td vd vl gp), (bstamps, oX8 24 3 bstampsc (nI kbstamps)), (bstampsc, iA G 72 fbstamps)]) hP hD (fun hP hD => ?_)
      have w2403 := hr2386
      refine toQ hQ0 ?_
      exact RV hC hP hD hS [0, 1, 2, 3, 4, 5, 6, 7, 8, 9, 10, 11, 12, 13, 14, 15, 16, 17, 18, 19, 20, 21, 22, 23, 24, 25, 26, 27, 28, 29, 30] (jl12388, jb12389, gk02390, gk12391, gk22392, gk32393, gk42394, gk52395, gk62396, gk72397, gk82398, gk92399, gk102400, gk112401, gk122402) rfl rfl (by decide) (⟨RES.seq hre8 w2403.1 (fun W9 => TRE.two hwj hj12) (fun V8 W8 => TRE.lt hwj hj12), hmk7.tr w2403.2⟩) gX3_holdOrLeave_5.2.2.2.2.2
    · refine lv_if_eq (tgt := 67) hx hb gX3_holdOrLeave_3.1 (by decide) (fun _ => ?_) (fun c9 => absurd (by decide) c9)
      refine lv_aload_n hx hb gX3_holdOrLeave_4.2.1 rfl (lv_at0 hl) ?_
      refine lv_iload_n hx hb gX3_holdOrLeave_4.2.2.1 rfl (lv_at1 hl) ?_
      refine lv_iconst (v := 1) hx hb gX3_holdOrLeave_4.2.2.2.1 (by decide) ?_
      refine lv_isub hx hb gX3_holdOrLeave_4.2.2.2.2.1 ?_
      refine lv_iload_n hx hb gX3_holdOrLeave_4.2.2.2.2.2.1 rfl (lv_at2 hl) ?_
      refine lv_iconst (v := 1) hx hb gX3_holdOrLeave_4.2.2.2.2.2.2.1 (by decide) ?_
      refine lv_iload_n hx hb gX3_holdOrLeave_4.2.2.2.2.2.2.2.1 rfl (lv_at1 hl) ?_
      refine lv_ishl hx hb gX3_holdOrLeave_4.2.2.2.2.2.2.2.2.1 ?_
      refine lv_ior hx hb gX3_holdOrLeave_4.2.2.2.2.2.2.2.2.2 ?_
      refine eqi (x1 := nI (jw ||| 2 ^ j)) (nI_orb hj12) ?_
      refine lv_iload_n hx hb gX3_holdOrLeave_5.1 rfl (lv_at3 hl) ?_
      refine lv_iconst (v := 1) hx hb gX3_holdOrLeave_5.2.1 (by decide) ?_
      refine lv_iadd hx hb gX3_holdOrLeave_5.2.2.1 ?_
      refine eqi (x1 := nI (jc + 1)) (nI_1 jc) ?_
      refine lv_iload hx hb gX3_holdOrLeave_5.2.2.2.1 (lv_at4 hl) ?_
      have hno9 : NOS (KHL fbstamps B9 gp.toInt kbstamps j jw) := by have h9 := a2367; rw [KHL.hold hSV hbj hwj] at h9; exact h9
      have hre8 : RES (TRE B9 j jw) (GDW fbstamps V9 gp.toInt kbstamps) jl jb jl jb := RES.none (fun W9 h8 h9 => absurd h9 (KHL.none hSV hBV hno9 h8))
      have hmk7 : MKP [fk0, fk1, fk2, fk3, fk4, fk5, fk6, fk7, fk8, fk9, fk10, fk11, fk12] [fk0, fk1, fk2, gx2366, fk4, fk5, fk6, fk7, fk8, fk9, fk10, fk11, fk12] 2 := fun j9 h9 => by rcases (show j9 = 0 ∨ j9 = 1 ∨ j9 = 2 by omega) with rfl | rfl | rfl <;> rfl
      have hle9 : jl ≤ 13 := Nat.le_trans hre8.le hjl
      have hkm9 : CLB (KHL fbstamps B9 gp.toInt kbstamps j (jw ||| 2 ^ j)) (MAT (MGT [fk0, fk1, fk2, gx2366, fk4, fk5, fk6, fk7, fk8, fk9, fk10, fk11, fk12] 2)) := by rw [hmk7 2 (Nat.le_refl _), KHL.leave hSV]; exact hKH
      have hct9 : jc + 1 = PCN (jw ||| 2 ^ j) 12 := by rw [PCN.or hwj, if_pos hj12, hCT]
      refine vV (wr := []) hC hK hl hP hD hS hA (ihS j (by omega) V9 B9 h0 (jw ||| 2 ^ j) (jc + 1) 2 bb hd bo jl jb hf kc0 km0 fk0 kc1 km1 fk1 kc2 km2 fk2 kc3 km3 gx2366 kc4 km4 fk4 kc5 km5 fk5 kc6 km6 fk6 kc7 km7 fk7 kc8 km8 fk8 kc9 km9 fk9 kc10 km10 fk10 kc11 km11 fk11 kc12 km12 fk12 bpersons bpapers bstamps bversions blines bsteps bsayings bfindings bwarnings bquestions td vd vl gp bstampsc kbstamps fbstamps (by omega) (by omega) hh0 hh1 hh2 hh3 hh4 hh5 hh6 hh7 hh8 hh9 hh10 hh11 hh12 hSV hgp hBV hVB hBB (hWS.or hj12 hbj) hct9 hkm9 hle9) si_X3_55 [25, 0, 1, 2, 3, 4, 23, 24, 29, 30, 5, 6, 7, 8, 9, 10, 11, 12, 13, 14, 15, 16, 17, 18, 19, 20, 21, 22, 26, 27, 28] [] sm_25_0_1_2_3_4_23_24_29_30_5_6_7_8_9_10_11_12_13_14_15_16_17_18_19_20_21_22_26_27_28 fm_25_0_1_2_3_4_23_24_29_30_5_6_7_8_9_10_11_12_13_14_15_16_17_18_19_20_21_22_26_27_28 nd_25_0_1_2_3_4_23_24_29_30_5_6_7_8_9_10_11_12_13_14_15_16_17_18_19_20_21_22_26_27_28 rfl rfl (by decide) rfl rfl rfl rfl rfl (Nat.le_of_ble_eq_true rfl) ⟨by simp only [RM]; omega, by simp only [RM]; omega⟩ ⟨Nat.le_of_ble_eq_true rfl, Nat.le_of_ble_eq_true rfl⟩ gX3_holdOrLeave_5.2.2.2.2.1 (Ktu15 fun jl12406 jb12407 gk02408 gk12409 gk22410 gk32411 gk42412 gk52413 gk62414 gk72415 gk82416 gk92417 gk102418 gk112419 gk122420 => ?_)
      intro H locs hr2404 hP hD hS
      try dsimp only at hr2404
      refine Kpdr (ws := [(h0, oX3 bb hd bo (nI jl12406) (nI jb12407)), (hd, cA G 13 hf), (kc0, oX1 km0), (km0, iA G 36 gk02408), (kc1, oX1 km1), (km1, iA G 36 gk12409), (kc2, oX1 km2), (km2, iA G 36 gk22410), (kc3, oX1 km3), (km3, iA G 36 gk32411), (kc4, oX1 km4), (km4, iA G 36 gk42412), (kc5, oX1 km5), (km5, iA G 36 gk52413), (kc6, oX1 km6), (km6, iA G 36 gk62414), (kc7, oX1 km7), (km7, iA G 36 gk72415), (kc8, oX1 km8), (km8, iA G 36 gk82416), (kc9, oX1 km9), (km9, iA G 36 gk92417), (kc10, oX1 km10), (km10, iA G 36 gk102418), (kc11, oX1 km11), (km11, iA G 36 gk112419), (kc12, oX1 km12), (km12, iA G 36 gk122420), (bb, oX0 bpersons bpapers bstamps bversions blines bsteps bsayings bfindings bwarnings bquestions td vd vl gp), (bstamps, oX8 24 3 bstampsc (nI kbstamps)), (bstampsc, iA G 72 fbstamps)]) hP hD (fun hP hD => ?_)
      have w2421 := hr2404
      refine toQ hQ0 ?_
      exact RV hC hP hD hS [0, 1, 2, 3, 4, 5, 6, 7, 8, 9, 10, 11, 12, 13, 14, 15, 16, 17, 18, 19, 20, 21, 22, 23, 24, 25, 26, 27, 28, 29, 30] (jl12406, jb12407, gk02408, gk12409, gk22410, gk32411, gk42412, gk52413, gk62414, gk72415, gk82416, gk92417, gk102418, gk112419, gk122420) rfl rfl (by decide) (⟨RES.seq hre8 w2421.1 (fun W9 => TRE.two hwj hj12) (fun V8 W8 => TRE.lt hwj hj12), hmk7.tr w2421.2⟩) gX3_holdOrLeave_5.2.2.2.2.2
  · have hl : lv_has ls 5 [(0, .ref h0), (1, .int (nI j)), (2, .int (nI jw)), (3, .int (nI jc)), (4, .int 3)] := hl
    refine lv_iload hx hb gX3_holdOrLeave_0.1 (lv_at4 hl) ?_
    refine lv_if_lt (tgt := 17) hx hb gX3_holdOrLeave_0.2.1 (by decide) (fun c9 => absurd c9 (by decide)) (fun _ => ?_)
    refine lv_iload hx hb gX3_holdOrLeave_0.2.2.1 (lv_at4 hl) ?_
    refine lv_iconst (v := 1) hx hb gX3_holdOrLeave_0.2.2.2.1 (by decide) ?_
    refine lv_iadd hx hb gX3_holdOrLeave_0.2.2.2.2.1 ?_
    refine eqi (x1 := 4) (by decide) ?_
    refine lv_aload_n hx hb gX3_holdOrLeave_0.2.2.2.2.2.1 rfl (lv_at0 hl) ?_
    refine gf_X3_11 hC rfl hK hP 0 rfl rfl gX3_holdOrLeave_0.2.2.2.2.2.2.1 ?_
    refine va_alen (v := 13) hx hb hK.1 hP 1 1 rfl rfl (show Int32.ofNat 13 = 13 by decide) gX3_holdOrLeave_0.2.2.2.2.2.2.2.1 ?_
    refine lv_icmp_lt (tgt := 18) hx hb gX3_holdOrLeave_0.2.2.2.2.2.2.2.2.1 (by decide) (fun _ => ?_) (fun c9 => absurd (by decide) c9)
    refine lv_aload_n hx hb gX3_holdOrLeave_1.1 rfl (lv_at0 hl) ?_
    refine gf_X3_11 hC rfl hK hP 0 rfl rfl gX3_holdOrLeave_1.2.1 ?_
    refine lv_iload hx hb gX3_holdOrLeave_1.2.2.1 (lv_at4 hl) ?_
    refine lv_iconst (v := 1) hx hb gX3_holdOrLeave_1.2.2.2.1 (by decide) ?_
    refine lv_iadd hx hb gX3_holdOrLeave_1.2.2.2.2.1 ?_
    refine eqi (x1 := 4) (by decide) ?_
    refine aldC hC hK hP 1 rfl (vin (by decide +kernel)) (k := 4) (by decide +kernel) (v := kc4) (hh4) gX3_holdOrLeave_1.2.2.2.2.2.1 ?_
    refine lv_aload_n hx hb gX3_holdOrLeave_1.2.2.2.2.2.2.1 rfl (lv_at0 hl) ?_
    refine gf_X3_11 hC rfl hK hP 0 rfl rfl gX3_holdOrLeave_1.2.2.2.2.2.2.2.1 ?_
    refine lv_iload hx hb gX3_holdOrLeave_1.2.2.2.2.2.2.2.2.1 (lv_at4 hl) ?_
    refine aldC hC hK hP 1 rfl (vin (by decide +kernel)) (k := 3) (by decide +kernel) (v := kc3) (hh3) gX3_holdOrLeave_1.2.2.2.2.2.2.2.2.2 ?_
    refine vV (wr := [(h0, oX3 bb hd bo (nI jl) (nI jb)), (hd, cA G 13 hf), (kc0, oX1 km0), (km0, iA G 36 fk0), (kc1, oX1 km1), (km1, iA G 36 fk1), (kc2, oX1 km2), (km2, iA G 36 fk2), (kc5, oX1 km5), (km5, iA G 36 fk5), (kc6, oX1 km6), (km6, iA G 36 fk6), (kc7, oX1 km7), (km7, iA G 36 fk7), (kc8, oX1 km8), (km8, iA G 36 fk8), (kc9, oX1 km9), (km9, iA G 36 fk9), (kc10, oX1 km10), (km10, iA G 36 fk10), (kc11, oX1 km11), (km11, iA G 36 fk11), (kc12, oX1 km12), (km12, iA G 36 fk12), (bb, oX0 bpersons bpapers bstamps bversions blines bsteps bsayings bfindings bwarnings bquestions td vd vl gp), (bstamps, oX8 24 3 bstampsc (nI kbstamps)), (bstampsc, iA G 72 fbstamps)]) hC hK hl hP hD hS hA (c_Cl_copyX l G kc4 kc3 km4 fk4 km3 fk3) si_X3_62 [10, 11, 8, 9] [0, 1, 2, 3, 4, 5, 6, 7, 12, 13, 14, 15, 16, 17, 18, 19, 20, 21, 22, 23, 24, 25, 26, 27, 28, 29, 30] sm_10_11_8_9 fm_10_11_8_9 nd_10_11_8_9 sm_0_1_2_3_4_5_6_7_12_13_14_15_16_17_18_19_20_21_22_23_24_25_26_27_28_29_30 nd_0_1_2_3_4_5_6_7_12_13_14_15_16_17_18_19_20_21_22_23_24_25_26_27_28_29_30 dj_10_11_8_9__0_1_2_3_4_5_6_7_12_13_14_15_16_17_18_19_20_21_22_23_24_25_26_27_28_29_30 rfl rfl rfl rfl rfl (Nat.le_of_ble_eq_true rfl) ⟨by simp only [RM]; omega, by simp only [RM]; omega⟩ ⟨Nat.le_of_ble_eq_true rfl, Nat.le_of_ble_eq_true rfl⟩ gX3_holdOrLeave_2.1 (fun f12424 H locs hr2422 hP hD hS => ?_)
    try dsimp only at hr2422
    refine Kpdr (ws := [(h0, oX3 bb hd bo (nI jl) (nI jb)), (hd, cA G 13 hf), (kc0, oX1 km0), (km0, iA G 36 fk0), (kc1, oX1 km1), (km1, iA G 36 fk1), (kc2, oX1 km2), (km2, iA G 36 fk2), (kc5, oX1 km5), (km5, iA G 36 fk5), (kc6, oX1 km6), (km6, iA G 36 fk6), (kc7, oX1 km7), (km7, iA G 36 fk7), (kc8, oX1 km8), (km8, iA G 36 fk8), (kc9, oX1 km9), (km9, iA G 36 fk9), (kc10, oX1 km10), (km10, iA G 36 fk10), (kc11, oX1 km11), (km11, iA G 36 fk11), (kc12, oX1 km12), (km12, iA G 36 fk12), (bb, oX0 bpersons bpapers bstamps bversions blines bsteps bsayings bfindings bwarnings bquestions td vd vl gp), (bstamps, oX8 24 3 bstampsc (nI kbstamps)), (bstampsc, iA G 72 fbstamps), (kc4, oX1 km4), (km4, iA G 36 f12424), (kc3, oX1 km3), (km3, iA G 36 fk3)]) hP hD (fun hP hD => ?_)
    have w2425 := hr2422
    refine lv_aload_n hx hb gX3_holdOrLeave_2.2.1 rfl (lv_at0 hl) ?_
    refine lv_iload_n hx hb gX3_holdOrLeave_2.2.2.1 rfl (lv_at1 hl) ?_
    refine lv_aload_n hx hb gX3_holdOrLeave_2.2.2.2.1 rfl (lv_at0 hl) ?_
    refine gf_X3_11 hC rfl hK hP 0 rfl rfl gX3_holdOrLeave_2.2.2.2.2.1 ?_
    refine lv_iload hx hb gX3_holdOrLeave_2.2.2.2.2.2.1 (lv_at4 hl) ?_
    refine lv_iconst (v := 1) hx hb gX3_holdOrLeave_2.2.2.2.2.2.2.1 (by decide) ?_
    refine lv_iadd hx hb gX3_holdOrLeave_2.2.2.2.2.2.2.2.1 ?_
    refine eqi (x1 := 4) (by decide) ?_
    refine aldC hC hK hP 1 rfl (vin (by decide +kernel)) (k := 4) (by decide +kernel) (v := kc4) (hh4) gX3_holdOrLeave_2.2.2.2.2.2.2.2.2.1 ?_
    have hcq9 : CLB (KHL fbstamps B9 gp.toInt kbstamps (j + 1) jw) (MAT f12424) := CLB.cg (f := fk3) hKH w2425
    refine iV (wr := [(hd, cA G 13 hf), (kc0, oX1 km0), (km0, iA G 36 fk0), (kc1, oX1 km1), (km1, iA G 36 fk1), (kc2, oX1 km2), (km2, iA G 36 fk2), (kc5, oX1 km5), (km5, iA G 36 fk5), (kc6, oX1 km6), (km6, iA G 36 fk6), (kc7, oX1 km7), (km7, iA G 36 fk7), (kc8, oX1 km8), (km8, iA G 36 fk8), (kc9, oX1 km9), (km9, iA G 36 fk9), (kc10, oX1 km10), (km10, iA G 36 fk10), (kc11, oX1 km11), (km11, iA G 36 fk11), (kc12, oX1 km12), (km12, iA G 36 fk12), (kc3, oX1 km3), (km3, iA G 36 fk3)]) hC hK hl hP hD hS hA (c_isRightX l G (KHL fbstamps B9 gp.toInt kbstamps (j + 1) jw) h0 j kc4 bb hd bo (nI jl) (nI jb) bpersons bpapers bstamps bversions blines bsteps bsayings bfindings bwarnings bquestions td vd vl gp bstampsc kbstamps fbstamps km4 f12424 (hkbstamps) (hcq9) (hSV) (hgp) (by omega)) si_X3_66 [0, 24, 25, 26, 27, 28] [1, 2, 3, 4, 5, 6, 7, 8, 9, 10, 11, 12, 13, 14, 15, 16, 17, 18, 19, 20, 21, 22, 23, 29, 30] sm_0_24_25_26_27_28 fm_0_24_25_26_27_28 nd_0_24_25_26_27_28 sm_1_2_3_4_5_6_7_8_9_10_11_12_13_14_15_16_17_18_19_20_21_22_23_29_30 nd_1_2_3_4_5_6_7_8_9_10_11_12_13_14_15_16_17_18_19_20_21_22_23_29_30 dj_0_24_25_26_27_28__1_2_3_4_5_6_7_8_9_10_11_12_13_14_15_16_17_18_19_20_21_22_23_29_30 rfl rfl rfl rfl rfl (Nat.le_of_ble_eq_true rfl) ⟨by simp only [RM]; omega, by simp only [RM]; omega⟩ ⟨Nat.le_of_ble_eq_true rfl, Nat.le_of_ble_eq_true rfl⟩ gX3_holdOrLeave_2.2.2.2.2.2.2.2.2.2 (fun r2426 gx2428 H locs hr2426 hP hD hS => ?_)
    try dsimp only at hr2426
    refine Kpdr (ws := [(hd, cA G 13 hf), (kc0, oX1 km0), (km0, iA G 36 fk0), (kc1, oX1 km1), (km1, iA G 36 fk1), (kc2, oX1 km2), (km2, iA G 36 fk2), (kc5, oX1 km5), (km5, iA G 36 fk5), (kc6, oX1 km6), (km6, iA G 36 fk6), (kc7, oX1 km7), (km7, iA G 36 fk7), (kc8, oX1 km8), (km8, iA G 36 fk8), (kc9, oX1 km9), (km9, iA G 36 fk9), (kc10, oX1 km10), (km10, iA G 36 fk10), (kc11, oX1 km11), (km11, iA G 36 fk11), (kc12, oX1 km12), (km12, iA G 36 fk12), (kc3, oX1 km3), (km3, iA G 36 fk3), (h0, oX3 bb hd bo (nI jl) (nI jb)), (bb, oX0 bpersons bpapers bstamps bversions blines bsteps bsayings bfindings bwarnings bquestions td vd vl gp), (bstamps, oX8 24 3 bstampsc (nI kbstamps)), (bstampsc, iA G 72 fbstamps), (kc4, oX1 km4), (km4, iA G 36 gx2428)]) hP hD (fun hP hD => ?_)
    rcases hr2426 with ⟨rfl, a2429⟩ | ⟨rfl, a2429⟩
    · refine lv_if_eq (tgt := 67) hx hb gX3_holdOrLeave_3.1 (by decide) (fun c9 => absurd c9 (by decide)) (fun _ => ?_)
      refine lv_aload_n hx hb gX3_holdOrLeave_3.2.1 rfl (lv_at0 hl) ?_
      refine lv_iload_n hx hb gX3_holdOrLeave_3.2.2.1 rfl (lv_at1 hl) ?_
      refine lv_iconst (v := 1) hx hb gX3_holdOrLeave_3.2.2.2.1 (by decide) ?_
      refine lv_isub hx hb gX3_holdOrLeave_3.2.2.2.2.1 ?_
      refine lv_iload_n hx hb gX3_holdOrLeave_3.2.2.2.2.2.1 rfl (lv_at2 hl) ?_
      refine lv_iload_n hx hb gX3_holdOrLeave_3.2.2.2.2.2.2.1 rfl (lv_at3 hl) ?_
      refine lv_iload hx hb gX3_holdOrLeave_3.2.2.2.2.2.2.2.1 (lv_at4 hl) ?_
      refine lv_iconst (v := 1) hx hb gX3_holdOrLeave_3.2.2.2.2.2.2.2.2.1 (by decide) ?_
      refine lv_iadd hx hb gX3_holdOrLeave_3.2.2.2.2.2.2.2.2.2 ?_
      refine eqi (x1 := 4) (by decide) ?_
      have hkn9 : CLB (KHL fbstamps B9 gp.toInt kbstamps j jw) (MAT (MGT [fk0, fk1, fk2, fk3, gx2428, fk5, fk6, fk7, fk8, fk9, fk10, fk11, fk12] 4)) := by have h9 := a2429; rw [KHL.hold hSV hbj hwj] at h9; exact h9
      have hmk8 : MKP [fk0, fk1, fk2, fk3, fk4, fk5, fk6, fk7, fk8, fk9, fk10, fk11, fk12] [fk0, fk1, fk2, fk3, gx2428, fk5, fk6, fk7, fk8, fk9, fk10, fk11, fk12] 3 := fun j9 h9 => by rcases (show j9 = 0 ∨ j9 = 1 ∨ j9 = 2 ∨ j9 = 3 by omega) with rfl | rfl | rfl | rfl <;> rfl
      refine vV (wr := []) hC hK hl hP hD hS hA (ihS j (by omega) V9 B9 h0 jw jc 4 bb hd bo jl jb hf kc0 km0 fk0 kc1 km1 fk1 kc2 km2 fk2 kc3 km3 fk3 kc4 km4 gx2428 kc5 km5 fk5 kc6 km6 fk6 kc7 km7 fk7 kc8 km8 fk8 kc9 km9 fk9 kc10 km10 fk10 kc11 km11 fk11 kc12 km12 fk12 bpersons bpapers bstamps bversions blines bsteps bsayings bfindings bwarnings bquestions td vd vl gp bstampsc kbstamps fbstamps (by omega) (by omega) hh0 hh1 hh2 hh3 hh4 hh5 hh6 hh7 hh8 hh9 hh10 hh11 hh12 hSV hgp hBV hVB hBB hWS.dn hCT hkn9 hjl) si_X3_55 [25, 0, 1, 2, 3, 4, 5, 6, 23, 24, 29, 30, 7, 8, 9, 10, 11, 12, 13, 14, 15, 16, 17, 18, 19, 20, 21, 22, 26, 27, 28] [] sm_25_0_1_2_3_4_5_6_23_24_29_30_7_8_9_10_11_12_13_14_15_16_17_18_19_20_21_22_26_27_28 fm_25_0_1_2_3_4_5_6_23_24_29_30_7_8_9_10_11_12_13_14_15_16_17_18_19_20_21_22_26_27_28 nd_25_0_1_2_3_4_5_6_23_24_29_30_7_8_9_10_11_12_13_14_15_16_17_18_19_20_21_22_26_27_28 rfl rfl (by decide) rfl rfl rfl rfl rfl (Nat.le_of_ble_eq_true rfl) ⟨by simp only [RM]; omega, by simp only [RM]; omega⟩ ⟨Nat.le_of_ble_eq_true rfl, Nat.le_of_ble_eq_true rfl⟩ gX3_holdOrLeave_4.1 (Ktu15 fun jl12432 jb12433 gk02434 gk12435 gk22436 gk32437 gk42438 gk52439 gk62440 gk72441 gk82442 gk92443 gk102444 gk112445 gk122446 => ?_)
      intro H locs hr2430 hP hD hS
      try dsimp only at hr2430
      refine Kpdr (ws := [(h0, oX3 bb hd bo (nI jl12432) (nI jb12433)), (hd, cA G 13 hf), (kc0, oX1 km0), (km0, iA G 36 gk02434), (kc1, oX1 km1), (km1, iA G 36 gk12435), (kc2, oX1 km2), (km2, iA G 36 gk22436), (kc3, oX1 km3), (km3, iA G 36 gk32437), (kc4, oX1 km4), (km4, iA G 36 gk42438), (kc5, oX1 km5), (km5, iA G 36 gk52439), (kc6, oX1 km6), (km6, iA G 36 gk62440), (kc7, oX1 km7), (km7, iA G 36 gk72441), (kc8, oX1 km8), (km8, iA G 36 gk82442), (kc9, oX1 km9), (km9, iA G 36 gk92443), (kc10, oX1 km10), (km10, iA G 36 gk102444), (kc11, oX1 km11), (km11, iA G 36 gk112445), (kc12, oX1 km12), (km12, iA G 36 gk122446), (bb, oX0 bpersons bpapers bstamps bversions blines bsteps bsayings bfindings bwarnings bquestions td vd vl gp), (bstamps, oX8 24 3 bstampsc (nI kbstamps)), (bstampsc, iA G 72 fbstamps)]) hP hD (fun hP hD => ?_)
      have w2447 := hr2430
      refine lv_aload_n hx hb gX3_holdOrLeave_4.2.1 rfl (lv_at0 hl) ?_
      refine lv_iload_n hx hb gX3_holdOrLeave_4.2.2.1 rfl (lv_at1 hl) ?_
      refine lv_iconst (v := 1) hx hb gX3_holdOrLeave_4.2.2.2.1 (by decide) ?_
      refine lv_isub hx hb gX3_holdOrLeave_4.2.2.2.2.1 ?_
      refine lv_iload_n hx hb gX3_holdOrLeave_4.2.2.2.2.2.1 rfl (lv_at2 hl) ?_
      refine lv_iconst (v := 1) hx hb gX3_holdOrLeave_4.2.2.2.2.2.2.1 (by decide) ?_
      refine lv_iload_n hx hb gX3_holdOrLeave_4.2.2.2.2.2.2.2.1 rfl (lv_at1 hl) ?_
      refine lv_ishl hx hb gX3_holdOrLeave_4.2.2.2.2.2.2.2.2.1 ?_
      refine lv_ior hx hb gX3_holdOrLeave_4.2.2.2.2.2.2.2.2.2 ?_
      refine eqi (x1 := nI (jw ||| 2 ^ j)) (nI_orb hj12) ?_
      refine lv_iload_n hx hb gX3_holdOrLeave_5.1 rfl (lv_at3 hl) ?_
      refine lv_iconst (v := 1) hx hb gX3_holdOrLeave_5.2.1 (by decide) ?_
      refine lv_iadd hx hb gX3_holdOrLeave_5.2.2.1 ?_
      refine eqi (x1 := nI (jc + 1)) (nI_1 jc) ?_
      refine lv_iload hx hb gX3_holdOrLeave_5.2.2.2.1 (lv_at4 hl) ?_
      have hre8 : RES (TRE B9 j jw) (GDW fbstamps V9 gp.toInt kbstamps) jl jb jl12432 jb12433 := w2447.1
      have hmk7 : MKP [fk0, fk1, fk2, fk3, fk4, fk5, fk6, fk7, fk8, fk9, fk10, fk11, fk12] [gk02434, gk12435, gk22436, gk32437, gk42438, gk52439, gk62440, gk72441, gk82442, gk92443, gk102444, gk112445, gk122446] 3 := hmk8.tr (w2447.2.le (by omega))
      have hle9 : jl12432 ≤ 13 := Nat.le_trans hre8.le hjl
      have hkm9 : CLB (KHL fbstamps B9 gp.toInt kbstamps j (jw ||| 2 ^ j)) (MAT (MGT [gk02434, gk12435, gk22436, gk32437, gk42438, gk52439, gk62440, gk72441, gk82442, gk92443, gk102444, gk112445, gk122446] 3)) := by rw [hmk7 3 (Nat.le_refl _), KHL.leave hSV]; exact hKH
      have hct9 : jc + 1 = PCN (jw ||| 2 ^ j) 12 := by rw [PCN.or hwj, if_pos hj12, hCT]
      refine vV (wr := []) hC hK hl hP hD hS hA (ihS j (by omega) V9 B9 h0 (jw ||| 2 ^ j) (jc + 1) 3 bb hd bo jl12432 jb12433 hf kc0 km0 gk02434 kc1 km1 gk12435 kc2 km2 gk22436 kc3 km3 gk32437 kc4 km4 gk42438 kc5 km5 gk52439 kc6 km6 gk62440 kc7 km7 gk72441 kc8 km8 gk82442 kc9 km9 gk92443 kc10 km10 gk102444 kc11 km11 gk112445 kc12 km12 gk122446 bpersons bpapers bstamps bversions blines bsteps bsayings bfindings bwarnings bquestions td vd vl gp bstampsc kbstamps fbstamps (by omega) (by omega) hh0 hh1 hh2 hh3 hh4 hh5 hh6 hh7 hh8 hh9 hh10 hh11 hh12 hSV hgp hBV hVB hBB (hWS.or hj12 hbj) hct9 hkm9 hle9) si_X3_55 [0, 1, 2, 3, 4, 5, 6, 7, 8, 9, 10, 11, 12, 13, 14, 15, 16, 17, 18, 19, 20, 21, 22, 23, 24, 25, 26, 27, 28, 29, 30] [] sm_0_1_2_3_4_5_6_7_8_9_10_11_12_13_14_15_16_17_18_19_20_21_22_23_24_25_26_27_28_29_30 fm_0_1_2_3_4_5_6_7_8_9_10_11_12_13_14_15_16_17_18_19_20_21_22_23_24_25_26_27_28_29_30 nd_0_1_2_3_4_5_6_7_8_9_10_11_12_13_14_15_16_17_18_19_20_21_22_23_24_25_26_27_28_29_30 rfl rfl (by decide) rfl rfl rfl rfl rfl (Nat.le_of_ble_eq_true rfl) ⟨by simp only [RM]; omega, by simp only [RM]; omega⟩ ⟨Nat.le_of_ble_eq_true rfl, Nat.le_of_ble_eq_true rfl⟩ gX3_holdOrLeave_5.2.2.2.2.1 (Ktu15 fun jl12450 jb12451 gk02452 gk12453 gk22454 gk32455 gk42456 gk52457 gk62458 gk72459 gk82460 gk92461 gk102462 gk112463 gk122464 => ?_)
      intro H locs hr2448 hP hD hS
      try dsimp only at hr2448
      refine Kpdr (ws := [(h0, oX3 bb hd bo (nI jl12450) (nI jb12451)), (hd, cA G 13 hf), (kc0, oX1 km0), (km0, iA G 36 gk02452), (kc1, oX1 km1), (km1, iA G 36 gk12453), (kc2, oX1 km2), (km2, iA G 36 gk22454), (kc3, oX1 km3), (km3, iA G 36 gk32455), (kc4, oX1 km4), (km4, iA G 36 gk42456), (kc5, oX1 km5), (km5, iA G 36 gk52457), (kc6, oX1 km6), (km6, iA G 36 gk62458), (kc7, oX1 km7), (km7, iA G 36 gk72459), (kc8, oX1 km8), (km8, iA G 36 gk82460), (kc9, oX1 km9), (km9, iA G 36 gk92461), (kc10, oX1 km10), (km10, iA G 36 gk102462), (kc11, oX1 km11), (km11, iA G 36 gk112463), (kc12, oX1 km12), (km12, iA G 36 gk122464), (bb, oX0 bpersons bpapers bstamps bversions blines bsteps bsayings bfindings bwarnings bquestions td vd vl gp), (bstamps, oX8 24 3 bstampsc (nI kbstamps)), (bstampsc, iA G 72 fbstamps)]) hP hD (fun hP hD => ?_)
      have w2465 := hr2448
      refine toQ hQ0 ?_
      exact RV hC hP hD hS [0, 1, 2, 3, 4, 5, 6, 7, 8, 9, 10, 11, 12, 13, 14, 15, 16, 17, 18, 19, 20, 21, 22, 23, 24, 25, 26, 27, 28, 29, 30] (jl12450, jb12451, gk02452, gk12453, gk22454, gk32455, gk42456, gk52457, gk62458, gk72459, gk82460, gk92461, gk102462, gk112463, gk122464) rfl rfl (by decide) (⟨RES.seq hre8 w2465.1 (fun W9 => TRE.two hwj hj12) (fun V8 W8 => TRE.lt hwj hj12), hmk7.tr w2465.2⟩) gX3_holdOrLeave_5.2.2.2.2.2
    · refine lv_if_eq (tgt := 67) hx hb gX3_holdOrLeave_3.1 (by decide) (fun _ => ?_) (fun c9 => absurd (by decide) c9)
      refine lv_aload_n hx hb gX3_holdOrLeave_4.2.1 rfl (lv_at0 hl) ?_
      refine lv_iload_n hx hb gX3_holdOrLeave_4.2.2.1 rfl (lv_at1 hl) ?_
      refine lv_iconst (v := 1) hx hb gX3_holdOrLeave_4.2.2.2.1 (by decide) ?_
      refine lv_isub hx hb gX3_holdOrLeave_4.2.2.2.2.1 ?_
      refine lv_iload_n hx hb gX3_holdOrLeave_4.2.2.2.2.2.1 rfl (lv_at2 hl) ?_
      refine lv_iconst (v := 1) hx hb gX3_holdOrLeave_4.2.2.2.2.2.2.1 (by decide) ?_
      refine lv_iload_n hx hb gX3_holdOrLeave_4.2.2.2.2.2.2.2.1 rfl (lv_at1 hl) ?_
      refine lv_ishl hx hb gX3_holdOrLeave_4.2.2.2.2.2.2.2.2.1 ?_
      refine lv_ior hx hb gX3_holdOrLeave_4.2.2.2.2.2.2.2.2.2 ?_
      refine eqi (x1 := nI (jw ||| 2 ^ j)) (nI_orb hj12) ?_
      refine lv_iload_n hx hb gX3_holdOrLeave_5.1 rfl (lv_at3 hl) ?_
      refine lv_iconst (v := 1) hx hb gX3_holdOrLeave_5.2.1 (by decide) ?_
      refine lv_iadd hx hb gX3_holdOrLeave_5.2.2.1 ?_
      refine eqi (x1 := nI (jc + 1)) (nI_1 jc) ?_
      refine lv_iload hx hb gX3_holdOrLeave_5.2.2.2.1 (lv_at4 hl) ?_
      have hno9 : NOS (KHL fbstamps B9 gp.toInt kbstamps j jw) := by have h9 := a2429; rw [KHL.hold hSV hbj hwj] at h9; exact h9
      have hre8 : RES (TRE B9 j jw) (GDW fbstamps V9 gp.toInt kbstamps) jl jb jl jb := RES.none (fun W9 h8 h9 => absurd h9 (KHL.none hSV hBV hno9 h8))
      have hmk7 : MKP [fk0, fk1, fk2, fk3, fk4, fk5, fk6, fk7, fk8, fk9, fk10, fk11, fk12] [fk0, fk1, fk2, fk3, gx2428, fk5, fk6, fk7, fk8, fk9, fk10, fk11, fk12] 3 := fun j9 h9 => by rcases (show j9 = 0 ∨ j9 = 1 ∨ j9 = 2 ∨ j9 = 3 by omega) with rfl | rfl | rfl | rfl <;> rfl
      have hle9 : jl ≤ 13 := Nat.le_trans hre8.le hjl
      have hkm9 : CLB (KHL fbstamps B9 gp.toInt kbstamps j (jw ||| 2 ^ j)) (MAT (MGT [fk0, fk1, fk2, fk3, gx2428, fk5, fk6, fk7, fk8, fk9, fk10, fk11, fk12] 3)) := by rw [hmk7 3 (Nat.le_refl _), KHL.leave hSV]; exact hKH
      have hct9 : jc + 1 = PCN (jw ||| 2 ^ j) 12 := by rw [PCN.or hwj, if_pos hj12, hCT]
      refine vV (wr := []) hC hK hl hP hD hS hA (ihS j (by omega) V9 B9 h0 (jw ||| 2 ^ j) (jc + 1) 3 bb hd bo jl jb hf kc0 km0 fk0 kc1 km1 fk1 kc2 km2 fk2 kc3 km3 fk3 kc4 km4 gx2428 kc5 km5 fk5 kc6 km6 fk6 kc7 km7 fk7 kc8 km8 fk8 kc9 km9 fk9 kc10 km10 fk10 kc11 km11 fk11 kc12 km12 fk12 bpersons bpapers bstamps bversions blines bsteps bsayings bfindings bwarnings bquestions td vd vl gp bstampsc kbstamps fbstamps (by omega) (by omega) hh0 hh1 hh2 hh3 hh4 hh5 hh6 hh7 hh8 hh9 hh10 hh11 hh12 hSV hgp hBV hVB hBB (hWS.or hj12 hbj) hct9 hkm9 hle9) si_X3_55 [25, 0, 1, 2, 3, 4, 5, 6, 23, 24, 29, 30, 7, 8, 9, 10, 11, 12, 13, 14, 15, 16, 17, 18, 19, 20, 21, 22, 26, 27, 28] [] sm_25_0_1_2_3_4_5_6_23_24_29_30_7_8_9_10_11_12_13_14_15_16_17_18_19_20_21_22_26_27_28 fm_25_0_1_2_3_4_5_6_23_24_29_30_7_8_9_10_11_12_13_14_15_16_17_18_19_20_21_22_26_27_28 nd_25_0_1_2_3_4_5_6_23_24_29_30_7_8_9_10_11_12_13_14_15_16_17_18_19_20_21_22_26_27_28 rfl rfl (by decide) rfl rfl rfl rfl rfl (Nat.le_of_ble_eq_true rfl) ⟨by simp only [RM]; omega, by simp only [RM]; omega⟩ ⟨Nat.le_of_ble_eq_true rfl, Nat.le_of_ble_eq_true rfl⟩ gX3_holdOrLeave_5.2.2.2.2.1 (Ktu15 fun jl12468 jb12469 gk02470 gk12471 gk22472 gk32473 gk42474 gk52475 gk62476 gk72477 gk82478 gk92479 gk102480 gk112481 gk122482 => ?_)
      intro H locs hr2466 hP hD hS
      try dsimp only at hr2466
      refine Kpdr (ws := [(h0, oX3 bb hd bo (nI jl12468) (nI jb12469)), (hd, cA G 13 hf), (kc0, oX1 km0), (km0, iA G 36 gk02470), (kc1, oX1 km1), (km1, iA G 36 gk12471), (kc2, oX1 km2), (km2, iA G 36 gk22472), (kc3, oX1 km3), (km3, iA G 36 gk32473), (kc4, oX1 km4), (km4, iA G 36 gk42474), (kc5, oX1 km5), (km5, iA G 36 gk52475), (kc6, oX1 km6), (km6, iA G 36 gk62476), (kc7, oX1 km7), (km7, iA G 36 gk72477), (kc8, oX1 km8), (km8, iA G 36 gk82478), (kc9, oX1 km9), (km9, iA G 36 gk92479), (kc10, oX1 km10), (km10, iA G 36 gk102480), (kc11, oX1 km11), (km11, iA G 36 gk112481), (kc12, oX1 km12), (km12, iA G 36 gk122482), (bb, oX0 bpersons bpapers bstamps bversions blines bsteps bsayings bfindings bwarnings bquestions td vd vl gp), (bstamps, oX8 24 3 bstampsc (nI kbstamps)), (bstampsc, iA G 72 fbstamps)]) hP hD (fun hP hD => ?_)
      have w2483 := hr2466
      refine toQ hQ0 ?_
      exact RV hC hP hD hS [0, 1, 2, 3, 4, 5, 6, 7, 8, 9, 10, 11, 12, 13, 14, 15, 16, 17, 18, 19, 20, 21, 22, 23, 24, 25, 26, 27, 28, 29, 30] (jl12468, jb12469, gk02470, gk12471, gk22472, gk32473, gk42474, gk52475, gk62476, gk72477, gk82478, gk92479, gk102480, gk112481, gk122482) rfl rfl (by decide) (⟨RES.seq hre8 w2483.1 (fun W9 => TRE.two hwj hj12) (fun V8 W8 => TRE.lt hwj hj12), hmk7.tr w2483.2⟩) gX3_holdOrLeave_5.2.2.2.2.2
  · have hl : lv_has ls 5 [(0, .ref h0), (1, .int (nI j)), (2, .int (nI jw)), (3, .int (nI jc)), (4, .int 4)] := hl
    refine lv_iload hx hb gX3_holdOrLeave_0.1 (lv_at4 hl) ?_
    refine lv_if_lt (tgt := 17) hx hb gX3_holdOrLeave_0.2.1 (by decide) (fun c9 => absurd c9 (by decide)) (fun _ => ?_)
    refine lv_iload hx hb gX3_holdOrLeave_0.2.2.1 (lv_at4 hl) ?_
    refine lv_iconst (v := 1) hx hb gX3_holdOrLeave_0.2.2.2.1 (by decide) ?_
    refine lv_iadd hx hb gX3_holdOrLeave_0.2.2.2.2.1 ?_
    refine eqi (x1 := 5) (by decide) ?_
    refine lv_aload_n hx hb gX3_holdOrLeave_0.2.2.2.2.2.1 rfl (lv_at0 hl) ?_
    refine gf_X3_11 hC rfl hK hP 0 rfl rfl gX3_holdOrLeave_0.2.2.2.2.2.2.1 ?_
    refine va_alen (v := 13) hx hb hK.1 hP 1 1 rfl rfl (show Int32.ofNat 13 = 13 by decide) gX3_holdOrLeave_0.2.2.2.2.2.2.2.1 ?_
    refine lv_icmp_lt (tgt := 18) hx hb gX3_holdOrLeave_0.2.2.2.2.2.2.2.2.1 (by decide) (fun _ => ?_) (fun c9 => absurd (by decide) c9)
    refine lv_aload_n hx hb gX3_holdOrLeave_1.1 rfl (lv_at0 hl) ?_
    refine gf_X3_11 hC rfl hK hP 0 rfl rfl gX3_holdOrLeave_1.2.1 ?_
    refine lv_iload hx hb gX3_holdOrLeave_1.2.2.1 (lv_at4 hl) ?_
    refine lv_iconst (v := 1) hx hb gX3_holdOrLeave_1.2.2.2.1 (by decide) ?_
    refine lv_iadd hx hb gX3_holdOrLeave_1.2.2.2.2.1 ?_
    refine eqi (x1 := 5) (by decide) ?_
    refine aldC hC hK hP 1 rfl (vin (by decide +kernel)) (k := 5) (by decide +kernel) (v := kc5) (hh5) gX3_holdOrLeave_1.2.2.2.2.2.1 ?_
    refine lv_aload_n hx hb gX3_holdOrLeave_1.2.2.2.2.2.2.1 rfl (lv_at0 hl) ?_
    refine gf_X3_11 hC rfl hK hP 0 rfl rfl gX3_holdOrLeave_1.2.2.2.2.2.2.2.1 ?_
    refine lv_iload hx hb gX3_holdOrLeave_1.2.2.2.2.2.2.2.2.1 (lv_at4 hl) ?_
    refine aldC hC hK hP 1 rfl (vin (by decide +kernel)) (k := 4) (by decide +kernel) (v := kc4) (hh4) gX3_holdOrLeave_1.2.2.2.2.2.2.2.2.2 ?_
    refine vV (wr := [(h0, oX3 bb hd bo (nI jl) (nI jb)), (hd, cA G 13 hf), (kc0, oX1 km0), (km0, iA G 36 fk0), (kc1, oX1 km1), (km1, iA G 36 fk1), (kc2, oX1 km2), (km2, iA G 36 fk2), (kc3, oX1 km3), (km3, iA G 36 fk3), (kc6, oX1 km6), (km6, iA G 36 fk6), (kc7, oX1 km7), (km7, iA G 36 fk7), (kc8, oX1 km8), (km8, iA G 36 fk8), (kc9, oX1 km9), (km9, iA G 36 fk9), (kc10, oX1 km10), (km10, iA G 36 fk10), (kc11, oX1 km11), (km11, iA G 36 fk11), (kc12, oX1 km12), (km12, iA G 36 fk12), (bb, oX0 bpersons bpapers bstamps bversions blines bsteps bsayings bfindings bwarnings bquestions td vd vl gp), (bstamps, oX8 24 3 bstampsc (nI kbstamps)), (bstampsc, iA G 72 fbstamps)]) hC hK hl hP hD hS hA (c_Cl_copyX l G kc5 kc4 km5 fk5 km4 fk4) si_X3_62 [12, 13, 10, 11] [0, 1, 2, 3, 4, 5, 6, 7, 8, 9, 14, 15, 16, 17, 18, 19, 20, 21, 22, 23, 24, 25, 26, 27, 28, 29, 30] sm_12_13_10_11 fm_12_13_10_11 nd_12_13_10_11 sm_0_1_2_3_4_5_6_7_8_9_14_15_16_17_18_19_20_21_22_23_24_25_26_27_28_29_30 nd_0_1_2_3_4_5_6_7_8_9_14_15_16_17_18_19_20_21_22_23_24_25_26_27_28_29_30 dj_12_13_10_11__0_1_2_3_4_5_6_7_8_9_14_15_16_17_18_19_20_21_22_23_24_25_26_27_28_29_30 rfl rfl rfl rfl rfl (Nat.le_of_ble_eq_true rfl) ⟨by simp only [RM]; omega, by simp only [RM]; omega⟩ ⟨Nat.le_of_ble_eq_true rfl, Nat.le_of_ble_eq_true rfl⟩ gX3_holdOrLeave_2.1 (fun f12486 H locs hr2484 hP hD hS => ?_)
    try dsimp only at hr2484
    refine Kpdr (ws := [(h0, oX3 bb hd bo (nI jl) (nI jb)), (hd, cA G 13 hf), (kc0, oX1 km0), (km0, iA G 36 fk0), (kc1, oX1 km1), (km1, iA G 36 fk1), (kc2, oX1 km2), (km2, iA G 36 fk2), (kc3, oX1 km3), (km3, iA G 36 fk3), (kc6, oX1 km6), (km6, iA G 36 fk6), (kc7, oX1 km7), (km7, iA G 36 fk7), (kc8, oX1 km8), (km8, iA G 36 fk8), (kc9, oX1 km9), (km9, iA G 36 fk9), (kc10, oX1 km10), (km10, iA G 36 fk10), (kc11, oX1 km11), (km11, iA G 36 fk11), (kc12, oX1 km12), (km12, iA G 36 fk12), (bb, oX0 bpersons bpapers bstamps bversions blines bsteps bsayings bfindings bwarnings bquestions td vd vl gp), (bstamps, oX8 24 3 bstampsc (nI kbstamps)), (bstampsc, iA G 72 fbstamps), (kc5, oX1 km5), (km5, iA G 36 f12486), (kc4, oX1 km4), (km4, iA G 36 fk4)]) hP hD (fun hP hD => ?_)
    have w2487 := hr2484
    refine lv_aload_n hx hb gX3_holdOrLeave_2.2.1 rfl (lv_at0 hl) ?_
    refine lv_iload_n hx hb gX3_holdOrLeave_2.2.2.1 rfl (lv_at1 hl) ?_
    refine lv_aload_n hx hb gX3_holdOrLeave_2.2.2.2.1 rfl (lv_at0 hl) ?_
    refine gf_X3_11 hC rfl hK hP 0 rfl rfl gX3_holdOrLeave_2.2.2.2.2.1 ?_
    refine lv_iload hx hb gX3_holdOrLeave_2.2.2.2.2.2.1 (lv_at4 hl) ?_
    refine lv_iconst (v := 1) hx hb gX3_holdOrLeave_2.2.2.2.2.2.2.1 (by decide) ?_
    refine lv_iadd hx hb gX3_holdOrLeave_2.2.2.2.2.2.2.2.1 ?_
    refine eqi (x1 := 5) (by decide) ?_
    refine aldC hC hK hP 1 rfl (vin (by decide +kernel)) (k := 5) (by decide +kernel) (v := kc5) (hh5) gX3_holdOrLeave_2.2.2.2.2.2.2.2.2.1 ?_
    have hcq9 : CLB (KHL fbstamps B9 gp.toInt kbstamps (j + 1) jw) (MAT f12486) := CLB.cg (f := fk4) hKH w2487
    refine iV (wr := [(hd, cA G 13 hf), (kc0, oX1 km0), (km0, iA G 36 fk0), (kc1, oX1 km1), (km1, iA G 36 fk1), (kc2, oX1 km2), (km2, iA G 36 fk2), (kc3, oX1 km3), (km3, iA G 36 fk3), (kc6, oX1 km6), (km6, iA G 36 fk6), (kc7, oX1 km7), (km7, iA G 36 fk7), (kc8, oX1 km8), (km8, iA G 36 fk8), (kc9, oX1 km9), (km9, iA G 36 fk9), (kc10, oX1 km10), (km10, iA G 36 fk10), (kc11, oX1 km11), (km11, iA G 36 fk11), (kc12, oX1 km12), (km12, iA G 36 fk12), (kc4, oX1 km4), (km4, iA G 36 fk4)]) hC hK hl hP hD hS hA (c_isRightX l G (KHL fbstamps B9 gp.toInt kbstamps (j + 1) jw) h0 j kc5 bb hd bo (nI jl) (nI jb) bpersons bpapers bstamps bversions blines bsteps bsayings bfindings bwarnings bquestions td vd vl gp bstampsc kbstamps fbstamps km5 f12486 (hkbstamps) (hcq9) (hSV) (hgp) (by omega)) si_X3_66 [0, 24, 25, 26, 27, 28] [1, 2, 3, 4, 5, 6, 7, 8, 9, 10, 11, 12, 13, 14, 15, 16, 17, 18, 19, 20, 21, 22, 23, 29, 30] sm_0_24_25_26_27_28 fm_0_24_25_26_27_28 nd_0_24_25_26_27_28 sm_1_2_3_4_5_6_7_8_9_10_11_12_13_14_15_16_17_18_19_20_21_22_23_29_30 nd_1_2_3_4_5_6_7_8_9_10_11_12_13_14_15_16_17_18_19_20_21_22_23_29_30 dj_0_24_25_26_27_28__1_2_3_4_5_6_7_8_9_10_11_12_13_14_15_16_17_18_19_20_21_22_23_29_30 rfl rfl rfl rfl rfl (Nat.le_of_ble_eq_true rfl) ⟨by simp only [RM]; omega, by simp only [RM]; omega⟩ ⟨Nat.le_of_ble_eq_true rfl, Nat.le_of_ble_eq_true rfl⟩ gX3_holdOrLeave_2.2.2.2.2.2.2.2.2.2 (fun r2488 gx2490 H locs hr2488 hP hD hS => ?_)
    try dsimp only at hr2488
    refine Kpdr (ws := [(hd, cA G 13 hf), (kc0, oX1 km0), (km0, iA G 36 fk0), (kc1, oX1 km1), (km1, iA G 36 fk1), (kc2, oX1 km2), (km2, iA G 36 fk2), (kc3, oX1 km3), (km3, iA G 36 fk3), (kc6, oX1 km6), (km6, iA G 36 fk6), (kc7, oX1 km7), (km7, iA G 36 fk7), (kc8, oX1 km8), (km8, iA G 36 fk8), (kc9, oX1 km9), (km9, iA G 36 fk9), (kc10, oX1 km10), (km10, iA G 36 fk10), (kc11, oX1 km11), (km11, iA G 36 fk11), (kc12, oX1 km12), (km12, iA G 36 fk12), (kc4, oX1 km4), (km4, iA G 36 fk4), (h0, oX3 bb hd bo (nI jl) (nI jb)), (bb, oX0 bpersons bpapers bstamps bversions blines bsteps bsayings bfindings bwarnings bquestions td vd vl gp), (bstamps, oX8 24 3 bstampsc (nI kbstamps)), (bstampsc, iA G 72 fbstamps), (kc5, oX1 km5), (km5, iA G 36 gx2490)]) hP hD (fun hP hD => ?_)
    rcases hr2488 with ⟨rfl, a2491⟩ | ⟨rfl, a2491⟩
    · refine lv_if_eq (tgt := 67) hx hb gX3_holdOrLeave_3.1 (by decide) (fun c9 => absurd c9 (by decide)) (fun _ => ?_)
      refine lv_aload_n hx hb gX3_holdOrLeave_3.2.1 rfl (lv_at0 hl) ?_
      refine lv_iload_n hx hb gX3_holdOrLeave_3.2.2.1 rfl (lv_at1 hl) ?_
      refine lv_iconst (v := 1) hx hb gX3_holdOrLeave_3.2.2.2.1 (by decide) ?_
      refine lv_isub hx hb gX3_holdOrLeave_3.2.2.2.2.1 ?_
      refine lv_iload_n hx hb gX3_holdOrLeave_3.2.2.2.2.2.1 rfl (lv_at2 hl) ?_
      refine lv_iload_n hx hb gX3_holdOrLeave_3.2.2.2.2.2.2.1 rfl (lv_at3 hl) ?_
      refine lv_iload hx hb gX3_holdOrLeave_3.2.2.2.2.2.2.2.1 (lv_at4 hl) ?_
      refine lv_iconst (v := 1) hx hb gX3_holdOrLeave_3.2.2.2.2.2.2.2.2.1 (by decide) ?_
      refine lv_iadd hx hb gX3_holdOrLeave_3.2.2.2.2.2.2.2.2.2 ?_
      refine eqi (x1 := 5) (by decide) ?_
      have hkn9 : CLB (KHL fbstamps B9 gp.toInt kbstamps j jw) (MAT (MGT [fk0, fk1, fk2, fk3, fk4, gx2490, fk6, fk7, fk8, fk9, fk10, fk11, fk12] 5)) := by have h9 := a2491; rw [KHL.hold hSV hbj hwj] at h9; exact h9
      have hmk8 : MKP [fk0, fk1, fk2, fk3, fk4, fk5, fk6, fk7, fk8, fk9, fk10, fk11, fk12] [fk0, fk1, fk2, fk3, fk4, gx2490, fk6, fk7, fk8, fk9, fk10, fk11, fk12] 4 := fun j9 h9 => by rcases (show j9 = 0 ∨ j9 = 1 ∨ j9 = 2 ∨ j9 = 3 ∨ j9 = 4 by omega) with rfl | rfl | rfl | rfl | rfl <;> rfl
      refine vV (wr := []) hC hK hl hP hD hS hA (ihS j (by omega) V9 B9 h0 jw jc 5 bb hd bo jl jb hf kc0 km0 fk0 kc1 km1 fk1 kc2 km2 fk2 kc3 km3 fk3 kc4 km4 fk4 kc5 km5 gx2490 kc6 km6 fk6 kc7 km7 fk7 kc8 km8 fk8 kc9 km9 fk9 kc10 km10 fk10 kc11 km11 fk11 kc12 km12 fk12 bpersons bpapers bstamps bversions blines bsteps bsayings bfindings bwarnings bquestions td vd vl gp bstampsc kbstamps fbstamps (by omega) (by omega) hh0 hh1 hh2 hh3 hh4 hh5 hh6 hh7 hh8 hh9 hh10 hh11 hh12 hSV hgp hBV hVB hBB hWS.dn hCT hkn9 hjl) si_X3_55 [25, 0, 1, 2, 3, 4, 5, 6, 7, 8, 23, 24, 29, 30, 9, 10, 11, 12, 13, 14, 15, 16, 17, 18, 19, 20, 21, 22, 26, 27, 28] [] sm_25_0_1_2_3_4_5_6_7_8_23_24_29_30_9_10_11_12_13_14_15_16_17_18_19_20_21_22_26_27_28 fm_25_0_1_2_3_4_5_6_7_8_23_24_29_30_9_10_11_12_13_14_15_16_17_18_19_20_21_22_26_27_28 nd_25_0_1_2_3_4_5_6_7_8_23_24_29_30_9_10_11_12_13_14_15_16_17_18_19_20_21_22_26_27_28 rfl rfl (by decide) rfl rfl rfl rfl rfl (Nat.le_of_ble_eq_true rfl) ⟨by simp only [RM]; omega, by simp only [RM]; omega⟩ ⟨Nat.le_of_ble_eq_true rfl, Nat.le_of_ble_eq_true rfl⟩ gX3_holdOrLeave_4.1 (Ktu15 fun jl12494 jb12495 gk02496 gk12497 gk22498 gk32499 gk42500 gk52501 gk62502 gk72503 gk82504 gk92505 gk102506 gk112507 gk122508 => ?_)
      intro H locs hr2492 hP hD hS
      try dsimp only at hr2492
      refine Kpdr (ws := [(h0, oX3 bb hd bo (nI jl12494) (nI jb12495)), (hd, cA G 13 hf), (kc0, oX1 km0), (km0, iA G 36 gk02496), (kc1, oX1 km1), (km1, iA G 36 gk12497), (kc2, oX1 km2), (km2, iA G 36 gk22498), (kc3, oX1 km3), (km3, iA G 36 gk32499), (kc4, oX1 km4), (km4, iA G 36 gk42500), (kc5, oX1 km5), (km5, iA G 36 gk52501), (kc6, oX1 km6), (km6, iA G 36 gk62502), (kc7, oX1 km7), (km7, iA G 36 gk72503), (kc8, oX1 km8), (km8, iA G 36 gk82504), (kc9, oX1 km9), (km9, iA G 36 gk92505), (kc10, oX1 km10), (km10, iA G 36 gk102506), (kc11, oX1 km11), (km11, iA G 36 gk112507), (kc12, oX1 km12), (km12, iA G 36 gk122508), (bb, oX0 bpersons bpapers bstamps bversions blines bsteps bsayings bfindings bwarnings bquestions td vd vl gp), (bstamps, oX8 24 3 bstampsc (nI kbstamps)), (bstampsc, iA G 72 fbstamps)]) hP hD (fun hP hD => ?_)
      have w2509 := hr2492
      refine lv_aload_n hx hb gX3_holdOrLeave_4.2.1 rfl (lv_at0 hl) ?_
      refine lv_iload_n hx hb gX3_holdOrLeave_4.2.2.1 rfl (lv_at1 hl) ?_
      refine lv_iconst (v := 1) hx hb gX3_holdOrLeave_4.2.2.2.1 (by decide) ?_
      refine lv_isub hx hb gX3_holdOrLeave_4.2.2.2.2.1 ?_
      refine lv_iload_n hx hb gX3_holdOrLeave_4.2.2.2.2.2.1 rfl (lv_at2 hl) ?_
      refine lv_iconst (v := 1) hx hb gX3_holdOrLeave_4.2.2.2.2.2.2.1 (by decide) ?_
      refine lv_iload_n hx hb gX3_holdOrLeave_4.2.2.2.2.2.2.2.1 rfl (lv_at1 hl) ?_
      refine lv_ishl hx hb gX3_holdOrLeave_4.2.2.2.2.2.2.2.2.1 ?_
      refine lv_ior hx hb gX3_holdOrLeave_4.2.2.2.2.2.2.2.2.2 ?_
      refine eqi (x1 := nI (jw ||| 2 ^ j)) (nI_orb hj12) ?_
      refine lv_iload_n hx hb gX3_holdOrLeave_5.1 rfl (lv_at3 hl) ?_
      refine lv_iconst (v := 1) hx hb gX3_holdOrLeave_5.2.1 (by decide) ?_
      refine lv_iadd hx hb gX3_holdOrLeave_5.2.2.1 ?_
      refine eqi (x1 := nI (jc + 1)) (nI_1 jc) ?_
      refine lv_iload hx hb gX3_holdOrLeave_5.2.2.2.1 (lv_at4 hl) ?_
      have hre8 : RES (TRE B9 j jw) (GDW fbstamps V9 gp.toInt kbstamps) jl jb jl12494 jb12495 := w2509.1
      have hmk7 : MKP [fk0, fk1, fk2, fk3, fk4, fk5, fk6, fk7, fk8, fk9, fk10, fk11, fk12] [gk02496, gk12497, gk22498, gk32499, gk42500, gk52501, gk62502, gk72503, gk82504, gk92505, gk102506, gk112507, gk122508] 4 := hmk8.tr (w2509.2.le (by omega))
      have hle9 : jl12494 ≤ 13 := Nat.le_trans hre8.le hjl
      have hkm9 : CLB (KHL fbstamps B9 gp.toInt kbstamps j (jw ||| 2 ^ j)) (MAT (MGT [gk02496, gk12497, gk22498, gk32499, gk42500, gk52501, gk62502, gk72503, gk82504, gk92505, gk102506, gk112507, gk122508] 4)) := by rw [hmk7 4 (Nat.le_refl _), KHL.leave hSV]; exact hKH
      have hct9 : jc + 1 = PCN (jw ||| 2 ^ j) 12 := by rw [PCN.or hwj, if_pos hj12, hCT]
      refine vV (wr := []) hC hK hl hP hD hS hA (ihS j (by omega) V9 B9 h0 (jw ||| 2 ^ j) (jc + 1) 4 bb hd bo jl12494 jb12495 hf kc0 km0 gk02496 kc1 km1 gk12497 kc2 km2 gk22498 kc3 km3 gk32499 kc4 km4 gk42500 kc5 km5 gk52501 kc6 km6 gk62502 kc7 km7 gk72503 kc8 km8 gk82504 kc9 km9 gk92505 kc10 km10 gk102506 kc11 km11 gk112507 kc12 km12 gk122508 bpersons bpapers bstamps bversions blines bsteps bsayings bfindings bwarnings bquestions td vd vl gp bstampsc kbstamps fbstamps (by omega) (by omega) hh0 hh1 hh2 hh3 hh4 hh5 hh6 hh7 hh8 hh9 hh10 hh11 hh12 hSV hgp hBV hVB hBB (hWS.or hj12 hbj) hct9 hkm9 hle9) si_X3_55 [0, 1, 2, 3, 4, 5, 6, 7, 8, 9, 10, 11, 12, 13, 14, 15, 16, 17, 18, 19, 20, 21, 22, 23, 24, 25, 26, 27, 28, 29, 30] [] sm_0_1_2_3_4_5_6_7_8_9_10_11_12_13_14_15_16_17_18_19_20_21_22_23_24_25_26_27_28_29_30 fm_0_1_2_3_4_5_6_7_8_9_10_11_12_13_14_15_16_17_18_19_20_21_22_23_24_25_26_27_28_29_30 nd_0_1_2_3_4_5_6_7_8_9_10_11_12_13_14_15_16_17_18_19_20_21_22_23_24_25_26_27_28_29_30 rfl rfl (by decide) rfl rfl rfl rfl rfl (Nat.le_of_ble_eq_true rfl) ⟨by simp only [RM]; omega, by simp only [RM]; omega⟩ ⟨Nat.le_of_ble_eq_true rfl, Nat.le_of_ble_eq_true rfl⟩ gX3_holdOrLeave_5.2.2.2.2.1 (Ktu15 fun jl12512 jb12513 gk02514 gk12515 gk22516 gk32517 gk42518 gk52519 gk62520 gk72521 gk82522 gk92523 gk102524 gk112525 gk122526 => ?_)
      intro H locs hr2510 hP hD hS
      try dsimp only at hr2510
      refine Kpdr (ws := [(h0, oX3 bb hd bo (nI jl12512) (nI jb12513)), (hd, cA G 13 hf), (kc0, oX1 km0), (km0, iA G 36 gk02514), (kc1, oX1 km1), (km1, iA G 36 gk12515), (kc2, oX1 km2), (km2, iA G 36 gk22516), (kc3, oX1 km3), (km3, iA G 36 gk32517), (kc4, oX1 km4), (km4, iA G 36 gk42518), (kc5, oX1 km5), (km5, iA G 36 gk52519), (kc6, oX1 km6), (km6, iA G 36 gk62520), (kc7, oX1 km7), (km7, iA G 36 gk72521), (kc8, oX1 km8), (km8, iA G 36 gk82522), (kc9, oX1 km9), (km9, iA G 36 gk92523), (kc10, oX1 km10), (km10, iA G 36 gk102524), (kc11, oX1 km11), (km11, iA G 36 gk112525), (kc12, oX1 km12), (km12, iA G 36 gk122526), (bb, oX0 bpersons bpapers bstamps bversions blines bsteps bsayings bfindings bwarnings bquestions td vd vl gp), (bstamps, oX8 24 3 bstampsc (nI kbstamps)), (bstampsc, iA G 72 fbstamps)]) hP hD (fun hP hD => ?_)
      have w2527 := hr2510
      refine toQ hQ0 ?_
      exact RV hC hP hD hS [0, 1, 2, 3, 4, 5, 6, 7, 8, 9, 10, 11, 12, 13, 14, 15, 16, 17, 18, 19, 20, 21, 22, 23, 24, 25, 26, 27, 28, 29, 30] (jl12512, jb12513, gk02514, gk12515, gk22516, gk32517, gk42518, gk52519, gk62520, gk72521, gk82522, gk92523, gk102524, gk112525, gk122526) rfl rfl (by decide) (⟨RES.seq hre8 w2527.1 (fun W9 => TRE.two hwj hj12) (fun V8 W8 => TRE.lt hwj hj12), hmk7.tr w2527.2⟩) gX3_holdOrLeave_5.2.2.2.2.2
    · refine lv_if_eq (tgt := 67) hx hb gX3_holdOrLeave_3.1 (by decide) (fun _ => ?_) (fun c9 => absurd (by decide) c9)
      refine lv_aload_n hx hb gX3_holdOrLeave_4.2.1 rfl (lv_at0 hl) ?_
      refine lv_iload_n hx hb gX3_holdOrLeave_4.2.2.1 rfl (lv_at1 hl) ?_
      refine lv_iconst (v := 1) hx hb gX3_holdOrLeave_4.2.2.2.1 (by decide) ?_
      refine lv_isub hx hb gX3_holdOrLeave_4.2.2.2.2.1 ?_
      refine lv_iload_n hx hb gX3_holdOrLeave_4.2.2.2.2.2.1 rfl (lv_at2 hl) ?_
      refine lv_iconst (v := 1) hx hb gX3_holdOrLeave_4.2.2.2.2.2.2.1 (by decide) ?_
      refine lv_iload_n hx hb gX3_holdOrLeave_4.2.2.2.2.2.2.2.1 rfl (lv_at1 hl) ?_
      refine lv_ishl hx hb gX3_holdOrLeave_4.2.2.2.2.2.2.2.2.1 ?_
      refine lv_ior hx hb gX3_holdOrLeave_4.2.2.2.2.2.2.2.2.2 ?_
      refine eqi (x1 := nI (jw ||| 2 ^ j)) (nI_orb hj12) ?_
      refine lv_iload_n hx hb gX3_holdOrLeave_5.1 rfl (lv_at3 hl) ?_
      refine lv_iconst (v := 1) hx hb gX3_holdOrLeave_5.2.1 (by decide) ?_
      refine lv_iadd hx hb gX3_holdOrLeave_5.2.2.1 ?_
      refine eqi (x1 := nI (jc + 1)) (nI_1 jc) ?_
      refine lv_iload hx hb gX3_holdOrLeave_5.2.2.2.1 (lv_at4 hl) ?_
      have hno9 : NOS (KHL fbstamps B9 gp.toInt kbstamps j jw) := by have h9 := a2491; rw [KHL.hold hSV hbj hwj] at h9; exact h9
      have hre8 : RES (TRE B9 j jw) (GDW fbstamps V9 gp.toInt kbstamps) jl jb jl jb := RES.none (fun W9 h8 h9 => absurd h9 (KHL.none hSV hBV hno9 h8))
      have hmk7 : MKP [fk0, fk1, fk2, fk3, fk4, fk5, fk6, fk7, fk8, fk9, fk10, fk11, fk12] [fk0, fk1, fk2, fk3, fk4, gx2490, fk6, fk7, fk8, fk9, fk10, fk11, fk12] 4 := fun j9 h9 => by rcases (show j9 = 0 ∨ j9 = 1 ∨ j9 = 2 ∨ j9 = 3 ∨ j9 = 4 by omega) with rfl | rfl | rfl | rfl | rfl <;> rfl
      have hle9 : jl ≤ 13 := Nat.le_trans hre8.le hjl
      have hkm9 : CLB (KHL fbstamps B9 gp.toInt kbstamps j (jw ||| 2 ^ j)) (MAT (MGT [fk0, fk1, fk2, fk3, fk4, gx2490, fk6, fk7, fk8, fk9, fk10, fk11, fk12] 4)) := by rw [hmk7 4 (Nat.le_refl _), KHL.leave hSV]; exact hKH
      have hct9 : jc + 1 = PCN (jw ||| 2 ^ j) 12 := by rw [PCN.or hwj, if_pos hj12, hCT]
      refine vV (wr := []) hC hK hl hP hD hS hA (ihS j (by omega) V9 B9 h0 (jw ||| 2 ^ j) (jc + 1) 4 bb hd bo jl jb hf kc0 km0 fk0 kc1 km1 fk1 kc2 km2 fk2 kc3 km3 fk3 kc4 km4 fk4 kc5 km5 gx2490 kc6 km6 fk6 kc7 km7 fk7 kc8 km8 fk8 kc9 km9 fk9 kc10 km10 fk10 kc11 km11 fk11 kc12 km12 fk12 bpersons bpapers bstamps bversions blines bsteps bsayings bfindings bwarnings bquestions td vd vl gp bstampsc kbstamps fbstamps (by omega) (by omega) hh0 hh1 hh2 hh3 hh4 hh5 hh6 hh7 hh8 hh9 hh10 hh11 hh12 hSV hgp hBV hVB hBB (hWS.or hj12 hbj) hct9 hkm9 hle9) si_X3_55 [25, 0, 1, 2, 3, 4, 5, 6, 7, 8, 23, 24, 29, 30, 9, 10, 11, 12, 13, 14, 15, 16, 17, 18, 19, 20, 21, 22, 26, 27, 28] [] sm_25_0_1_2_3_4_5_6_7_8_23_24_29_30_9_10_11_12_13_14_15_16_17_18_19_20_21_22_26_27_28 fm_25_0_1_2_3_4_5_6_7_8_23_24_29_30_9_10_11_12_13_14_15_16_17_18_19_20_21_22_26_27_28 nd_25_0_1_2_3_4_5_6_7_8_23_24_29_30_9_10_11_12_13_14_15_16_17_18_19_20_21_22_26_27_28 rfl rfl (by decide) rfl rfl rfl rfl rfl (Nat.le_of_ble_eq_true rfl) ⟨by simp only [RM]; omega, by simp only [RM]; omega⟩ ⟨Nat.le_of_ble_eq_true rfl, Nat.le_of_ble_eq_true rfl⟩ gX3_holdOrLeave_5.2.2.2.2.1 (Ktu15 fun jl12530 jb12531 gk02532 gk12533 gk22534 gk32535 gk42536 gk52537 gk62538 gk72539 gk82540 gk92541 gk102542 gk112543 gk122544 => ?_)
      intro H locs hr2528 hP hD hS
      try dsimp only at hr2528
      refine Kpdr (ws := [(h0, oX3 bb hd bo (nI jl12530) (nI jb12531)), (hd, cA G 13 hf), (kc0, oX1 km0), (km0, iA G 36 gk02532), (kc1, oX1 km1), (km1, iA G 36 gk12533), (kc2, oX1 km2), (km2, iA G 36 gk22534), (kc3, oX1 km3), (km3, iA G 36 gk32535), (kc4, oX1 km4), (km4, iA G 36 gk42536), (kc5, oX1 km5), (km5, iA G 36 gk52537), (kc6, oX1 km6), (km6, iA G 36 gk62538), (kc7, oX1 km7), (km7, iA G 36 gk72539), (kc8, oX1 km8), (km8, iA G 36 gk82540), (kc9, oX1 km9), (km9, iA G 36 gk92541), (kc10, oX1 km10), (km10, iA G 36 gk102542), (kc11, oX1 km11), (km11, iA G 36 gk112543), (kc12, oX1 km12), (km12, iA G 36 gk122544), (bb, oX0 bpersons bpapers bstamps bversions blines bsteps bsayings bfindings bwarnings bquestions td vd vl gp), (bstamps, oX8 24 3 bstampsc (nI kbstamps)), (bstampsc, iA G 72 fbstamps)]) hP hD (fun hP hD => ?_)
      have w2545 := hr2528
      refine toQ hQ0 ?_
      exact RV hC hP hD hS [0, 1, 2, 3, 4, 5, 6, 7, 8, 9, 10, 11, 12, 13, 14, 15, 16, 17, 18, 19, 20, 21, 22, 23, 24, 25, 26, 27, 28, 29, 30] (jl12530, jb12531, gk02532, gk12533, gk22534, gk32535, gk42536, gk52537, gk62538, gk72539, gk82540, gk92541, gk102542, gk112543, gk122544) rfl rfl (by decide) (⟨RES.seq hre8 w2545.1 (fun W9 => TRE.two hwj hj12) (fun V8 W8 => TRE.lt hwj hj12), hmk7.tr w2545.2⟩) gX3_holdOrLeave_5.2.2.2.2.2
  · have hl : lv_has ls 5 [(0, .ref h0), (1, .int (nI j)), (2, .int (nI jw)), (3, .int (nI jc)), (4, .int 5)] := hl
    refine lv_iload hx hb gX3_holdOrLeave_0.1 (lv_at4 hl) ?_
    refine lv_if_lt (tgt := 17) hx hb gX3_holdOrLeave_0.2.1 (by decide) (fun c9 => absurd c9 (by decide)) (fun _ => ?_)
    refine lv_iload hx hb gX3_holdOrLeave_0.2.2.1 (lv_at4 hl) ?_
    refine lv_iconst (v := 1) hx hb gX3_holdOrLeave_0.2.2.2.1 (by decide) ?_
    refine lv_iadd hx hb gX3_holdOrLeave_0.2.2.2.2.1 ?_
    refine eqi (x1 := 6) (by decide) ?_
    refine lv_aload_n hx hb gX3_holdOrLeave_0.2.2.2.2.2.1 rfl (lv_at0 hl) ?_
    refine gf_X3_11 hC rfl hK hP 0 rfl rfl gX3_holdOrLeave_0.2.2.2.2.2.2.1 ?_
    refine va_alen (v := 13) hx hb hK.1 hP 1 1 rfl rfl (show Int32.ofNat 13 = 13 by decide) gX3_holdOrLeave_0.2.2.2.2.2.2.2.1 ?_
    refine lv_icmp_lt (tgt := 18) hx hb gX3_holdOrLeave_0.2.2.2.2.2.2.2.2.1 (by decide) (fun _ => ?_) (fun c9 => absurd (by decide) c9)
    refine lv_aload_n hx hb gX3_holdOrLeave_1.1 rfl (lv_at0 hl) ?_
    refine gf_X3_11 hC rfl hK hP 0 rfl rfl gX3_holdOrLeave_1.2.1 ?_
    refine lv_iload hx hb gX3_holdOrLeave_1.2.2.1 (lv_at4 hl) ?_
    refine lv_iconst (v := 1) hx hb gX3_holdOrLeave_1.2.2.2.1 (by decide) ?_
    refine lv_iadd hx hb gX3_holdOrLeave_1.2.2.2.2.1 ?_
    refine eqi (x1 := 6) (by decide) ?_
    refine aldC hC hK hP 1 rfl (vin (by decide +kernel)) (k := 6) (by decide +kernel) (v := kc6) (hh6) gX3_holdOrLeave_1.2.2.2.2.2.1 ?_
    refine lv_aload_n hx hb gX3_holdOrLeave_1.2.2.2.2.2.2.1 rfl (lv_at0 hl) ?_
    refine gf_X3_11 hC rfl hK hP 0 rfl rfl gX3_holdOrLeave_1.2.2.2.2.2.2.2.1 ?_
    refine lv_iload hx hb gX3_holdOrLeave_1.2.2.2.2.2.2.2.2.1 (lv_at4 hl) ?_
    refine aldC hC hK hP 1 rfl (vin (by decide +kernel)) (k := 5) (by decide +kernel) (v := kc5) (hh5) gX3_holdOrLeave_1.2.2.2.2.2.2.2.2.2 ?_
    refine vV (wr := [(h0, oX3 bb hd bo (nI jl) (nI jb)), (hd, cA G 13 hf), (kc0, oX1 km0), (km0, iA G 36 fk0), (kc1, oX1 km1), (km1, iA G 36 fk1), (kc2, oX1 km2), (km2, iA G 36 fk2), (kc3, oX1 km3), (km3, iA G 36 fk3), (kc4, oX1 km4), (km4, iA G 36 fk4), (kc7, oX1 km7), (km7, iA G 36 fk7), (kc8, oX1 km8), (km8, iA G 36 fk8), (kc9, oX1 km9), (km9, iA G 36 fk9), (kc10, oX1 km10), (km10, iA G 36 fk10), (kc11, oX1 km11), (km11, iA G 36 fk11), (kc12, oX1 km12), (km12, iA G 36 fk12), (bb, oX0 bpersons bpapers bstamps bversions blines bsteps bsayings bfindings bwarnings bquestions td vd vl gp), (bstamps, oX8 24 3 bstampsc (nI kbstamps)), (bstampsc, iA G 72 fbstamps)]) hC hK hl hP hD hS hA (c_Cl_copyX l G kc6 kc5 km6 fk6 km5 fk5) si_X3_62 [14, 15, 12, 13] [0, 1, 2, 3, 4, 5, 6, 7, 8, 9, 10, 11, 16, 17, 18, 19, 20, 21, 22, 23, 24, 25, 26, 27, 28, 29, 30] sm_14_15_12_13 fm_14_15_12_13 nd_14_15_12_13 sm_0_1_2_3_4_5_6_7_8_9_10_11_16_17_18_19_20_21_22_23_24_25_26_27_28_29_30 nd_0_1_2_3_4_5_6_7_8_9_10_11_16_17_18_19_20_21_22_23_24_25_26_27_28_29_30 dj_14_15_12_13__0_1_2_3_4_5_6_7_8_9_10_11_16_17_18_19_20_21_22_23_24_25_26_27_28_29_30 rfl rfl rfl rfl rfl (Nat.le_of_ble_eq_true rfl) ⟨by simp only [RM]; omega, by simp only [RM]; omega⟩ ⟨Nat.le_of_ble_eq_true rfl, Nat.le_of_ble_eq_true rfl⟩ gX3_holdOrLeave_2.1 (fun f12548 H locs hr2546 hP hD hS => ?_)
    try dsimp only at hr2546
    refine Kpdr (ws := [(h0, oX3 bb hd bo (nI jl) (nI jb)), (hd, cA G 13 hf), (kc0, oX1 km0), (km0, iA G 36 fk0), (kc1, oX1 km1), (km1, iA G 36 fk1), (kc2, oX1 km2), (km2, iA G 36 fk2), (kc3, oX1 km3), (km3, iA G 36 fk3), (kc4, oX1 km4), (km4, iA G 36 fk4), (kc7, oX1 km7), (km7, iA G 36 fk7), (kc8, oX1 km8), (km8, iA G 36 fk8), (kc9, oX1 km9), (km9, iA G 36 fk9), (kc10, oX1 km10), (km10, iA G 36 fk10), (kc11, oX1 km11), (km11, iA G 36 fk11), (kc12, oX1 km12), (km12, iA G 36 fk12), (bb, oX0 bpersons bpapers bstamps bversions blines bsteps bsayings bfindings bwarnings bquestions td vd vl gp), (bstamps, oX8 24 3 bstampsc (nI kbstamps)), (bstampsc, iA G 72 fbstamps), (kc6, oX1 km6), (km6, iA G 36 f12548), (kc5, oX1 km5), (km5, iA G 36 fk5)]) hP hD (fun hP hD => ?_)
    have w2549 := hr2546
    refine lv_aload_n hx hb gX3_holdOrLeave_2.2.1 rfl (lv_at0 hl) ?_
    refine lv_iload_n hx hb gX3_holdOrLeave_2.2.2.1 rfl (lv_at1 hl) ?_
    refine lv_aload_n hx hb gX3_holdOrLeave_2.2.2.2.1 rfl (lv_at0 hl) ?_
    refine gf_X3_11 hC rfl hK hP 0 rfl rfl gX3_holdOrLeave_2.2.2.2.2.1 ?_
    refine lv_iload hx hb gX3_holdOrLeave_2.2.2.2.2.2.1 (lv_at4 hl) ?_
    refine lv_iconst (v := 1) hx hb gX3_holdOrLeave_2.2.2.2.2.2.2.1 (by decide) ?_
    refine lv_iadd hx hb gX3_holdOrLeave_2.2.2.2.2.2.2.2.1 ?_
    refine eqi (x1 := 6) (by decide) ?_
    refine aldC hC hK hP 1 rfl (vin (by decide +kernel)) (k := 6) (by decide +kernel) (v := kc6) (hh6) gX3_holdOrLeave_2.2.2.2.2.2.2.2.2.1 ?_
    have hcq9 : CLB (KHL fbstamps B9 gp.toInt kbstamps (j + 1) jw) (MAT f12548) := CLB.cg (f := fk5) hKH w2549
    refine iV (wr := [(hd, cA G 13 hf), (kc0, oX1 km0), (km0, iA G 36 fk0), (kc1, oX1 km1), (km1, iA G 36 fk1), (kc2, oX1 km2), (km2, iA G 36 fk2), (kc3, oX1 km3), (km3, iA G 36 fk3), (kc4, oX1 km4), (km4, iA G 36 fk4), (kc7, oX1 km7), (km7, iA G 36 fk7), (kc8, oX1 km8), (km8, iA G 36 fk8), (kc9, oX1 km9), (km9, iA G 36 fk9), (kc10, oX1 km10), (km10, iA G 36 fk10), (kc11, oX1 km11), (km11, iA G 36 fk11), (kc12, oX1 km12), (km12, iA G 36 fk12), (kc5, oX1 km5), (km5, iA G 36 fk5)]) hC hK hl hP hD hS hA (c_isRightX l G (KHL fbstamps B9 gp.toInt kbstamps (j + 1) jw) h0 j kc6 bb hd bo (nI jl) (nI jb) bpersons bpapers bstamps bversions blines bsteps bsayings bfindings bwarnings bquestions td vd vl gp bstampsc kbstamps fbstamps km6 f12548 (hkbstamps) (hcq9) (hSV) (hgp) (by omega)) si_X3_66 [0, 24, 25, 26, 27, 28] [1, 2, 3, 4, 5, 6, 7, 8, 9, 10, 11, 12, 13, 14, 15, 16, 17, 18, 19, 20, 21, 22, 23, 29, 30] sm_0_24_25_26_27_28 fm_0_24_25_26_27_28 nd_0_24_25_26_27_28 sm_1_2_3_4_5_6_7_8_9_10_11_12_13_14_15_16_17_18_19_20_21_22_23_29_30 nd_1_2_3_4_5_6_7_8_9_10_11_12_13_14_15_16_17_18_19_20_21_22_23_29_30 dj_0_24_25_26_27_28__1_2_3_4_5_6_7_8_9_10_11_12_13_14_15_16_17_18_19_20_21_22_23_29_30 rfl rfl rfl rfl rfl (Nat.le_of_ble_eq_true rfl) ⟨by simp only [RM]; omega, by simp only [RM]; omega⟩ ⟨Nat.le_of_ble_eq_true rfl, Nat.le_of_ble_eq_true rfl⟩ gX3_holdOrLeave_2.2.2.2.2.2.2.2.2.2 (fun r2550 gx2552 H locs hr2550 hP hD hS => ?_)
    try dsimp only at hr2550
    refine Kpdr (ws := [(hd, cA G 13 hf), (kc0, oX1 km0), (km0, iA G 36 fk0), (kc1, oX1 km1), (km1, iA G 36 fk1), (kc2, oX1 km2), (km2, iA G 36 fk2), (kc3, oX1 km3), (km3, iA G 36 fk3), (kc4, oX1 km4), (km4, iA G 36 fk4), (kc7, oX1 km7), (km7, iA G 36 fk7), (kc8, oX1 km8), (km8, iA G 36 fk8), (kc9, oX1 km9), (km9, iA G 36 fk9), (kc10, oX1 km10), (km10, iA G 36 fk10), (kc11, oX1 km11), (km11, iA G 36 fk11), (kc12, oX1 km12), (km12, iA G 36 fk12), (kc5, oX1 km5), (km5, iA G 36 fk5), (h0, oX3 bb hd bo (nI jl) (nI jb)), (bb, oX0 bpersons bpapers bstamps bversions blines bsteps bsayings bfindings bwarnings bquestions td vd vl gp), (bstamps, oX8 24 3 bstampsc (nI kbstamps)), (bstampsc, iA G 72 fbstamps), (kc6, oX1 km6), (km6, iA G 36 gx2552)]) hP hD (fun hP hD => ?_)
    rcases hr2550 with ⟨rfl, a2553⟩ | ⟨rfl, a2553⟩
    · refine lv_if_eq (tgt := 67) hx hb gX3_holdOrLeave_3.1 (by decide) (fun c9 => absurd c9 (by decide)) (fun _ => ?_)
      refine lv_aload_n hx hb gX3_holdOrLeave_3.2.1 rfl (lv_at0 hl) ?_
      refine lv_iload_n hx hb gX3_holdOrLeave_3.2.2.1 rfl (lv_at1 hl) ?_
      refine lv_iconst (v := 1) hx hb gX3_holdOrLeave_3.2.2.2.1 (by decide) ?_
      refine lv_isub hx hb gX3_holdOrLeave_3.2.2.2.2.1 ?_
      refine lv_iload_n hx hb gX3_holdOrLeave_3.2.2.2.2.2.1 rfl (lv_at2 hl) ?_
      refine lv_iload_n hx hb gX3_holdOrLeave_3.2.2.2.2.2.2.1 rfl (lv_at3 hl) ?_
      refine lv_iload hx hb gX3_holdOrLeave_3.2.2.2.2.2.2.2.1 (lv_at4 hl) ?_
      refine lv_iconst (v := 1) hx hb gX3_holdOrLeave_3.2.2.2.2.2.2.2.2.1 (by decide) ?_
      refine lv_iadd hx hb gX3_holdOrLeave_3.2.2.2.2.2.2.2.2.2 ?_
      refine eqi (x1 := 6) (by decide) ?_
      have hkn9 : CLB (KHL fbstamps B9 gp.toInt kbstamps j jw) (MAT (MGT [fk0, fk1, fk2, fk3, fk4, fk5, gx2552, fk7, fk8, fk9, fk10, fk11, fk12] 6)) := by have h9 := a2553; rw [KHL.hold hSV hbj hwj] at h9; exact h9
      have hmk8 : MKP [fk0, fk1, fk2, fk3, fk4, fk5, fk6, fk7, fk8, fk9, fk10, fk11, fk12] [fk0, fk1, fk2, fk3, fk4, fk5, gx2552, fk7, fk8, fk9, fk10, fk11, fk12] 5 := fun j9 h9 => by rcases (show j9 = 0 ∨ j9 = 1 ∨ j9 = 2 ∨ j9 = 3 ∨ j9 = 4 ∨ j9 = 5 by omega) with rfl | rfl | rfl | rfl | rfl | rfl <;> rfl
      refine vV (wr := []) hC hK hl hP hD hS hA (ihS j (by omega) V9 B9 h0 jw jc 6 bb hd bo jl jb hf kc0 km0 fk0 kc1 km1 fk1 kc2 km2 fk2 kc3 km3 fk3 kc4 km4 fk4 kc5 km5 fk5 kc6 km6 gx2552 kc7 km7 fk7 kc8 km8 fk8 kc9 km9 fk9 kc10 km10 fk10 kc11 km11 fk11 kc12 km12 fk12 bpersons bpapers bstamps bversions blines bsteps bsayings bfindings bwarnings bquestions td vd vl gp bstampsc kbstamps fbstamps (by omega) (by omega) hh0 hh1 hh2 hh3 hh4 hh5 hh6 hh7 hh8 hh9 hh10 hh11 hh12 hSV hgp hBV hVB hBB hWS.dn hCT hkn9 hjl) si_X3_55 [25, 0, 1, 2, 3, 4, 5, 6, 7, 8, 9, 10, 23, 24, 29, 30, 11, 12, 13, 14, 15, 16, 17, 18, 19, 20, 21, 22, 26, 27, 28] [] sm_25_0_1_2_3_4_5_6_7_8_9_10_23_24_29_30_11_12_13_14_15_16_17_18_19_20_21_22_26_27_28 fm_25_0_1_2_3_4_5_6_7_8_9_10_23_24_29_30_11_12_13_14_15_16_17_18_19_20_21_22_26_27_28 nd_25_0_1_2_3_4_5_6_7_8_9_10_23_24_29_30_11_12_13_14_15_16_17_18_19_20_21_22_26_27_28 rfl rfl (by decide) rfl rfl rfl rfl rfl (Nat.le_of_ble_eq_true rfl) ⟨by simp only [RM]; omega, by simp only [RM]; omega⟩ ⟨Nat.le_of_ble_eq_true rfl, Nat.le_of_ble_eq_true rfl⟩ gX3_holdOrLeave_4.1 (Ktu15 fun jl12556 jb12557 gk02558 gk12559 gk22560 gk32561 gk42562 gk52563 gk62564 gk72565 gk82566 gk92567 gk102568 gk112569 gk122570 => ?_)
      intro H locs hr2554 hP hD hS
      try dsimp only at hr2554
      refine Kpdr (ws := [(h0, oX3 bb hd bo (nI jl12556) (nI jb12557)), (hd, cA G 13 hf), (kc0, oX1 km0), (km0, iA G 36 gk02558), (kc1, oX1 km1), (km1, iA G 36 gk12559), (kc2, oX1 km2), (km2, iA G 36 gk22560), (kc3, oX1 km3), (km3, iA G 36 gk32561), (kc4, oX1 km4), (km4, iA G 36 gk42562), (kc5, oX1 km5), (km5, iA G 36 gk52563), (kc6, oX1 km6), (km6, iA G 36 gk62564), (kc7, oX1 km7), (km7, iA G 36 gk72565), (kc8, oX1 km8), (km8, iA G 36 gk82566), (kc9, oX1 km9), (km9, iA G 36 gk92567), (kc10, oX1 km10), (km10, iA G 36 gk102568), (kc11, oX1 km11), (km11, iA G 36 gk112569), (kc12, oX1 km12), (km12, iA G 36 gk122570), (bb, oX0 bpersons bpapers bstamps bversions blines bsteps bsayings bfindings bwarnings bquestions td vd vl gp), (bstamps, oX8 24 3 bstampsc (nI kbstamps)), (bstampsc, iA G 72 fbstamps)]) hP hD (fun hP hD => ?_)
      have w2571 := hr2554
      refine lv_aload_n hx hb gX3_holdOrLeave_4.2.1 rfl (lv_at0 hl) ?_
      refine lv_iload_n hx hb gX3_holdOrLeave_4.2.2.1 rfl (lv_at1 hl) ?_
      refine lv_iconst (v := 1) hx hb gX3_holdOrLeave_4.2.2.2.1 (by decide) ?_
      refine lv_isub hx hb gX3_holdOrLeave_4.2.2.2.2.1 ?_
      refine lv_iload_n hx hb gX3_holdOrLeave_4.2.2.2.2.2.1 rfl (lv_at2 hl) ?_
      refine lv_iconst (v := 1) hx hb gX3_holdOrLeave_4.2.2.2.2.2.2.1 (by decide) ?_
      refine lv_iload_n hx hb gX3_holdOrLeave_4.2.2.2.2.2.2.2.1 rfl (lv_at1 hl) ?_
      refine lv_ishl hx hb gX3_holdOrLeave_4.2.2.2.2.2.2.2.2.1 ?_
      refine lv_ior hx hb gX3_holdOrLeave_4.2.2.2.2.2.2.2.2.2 ?_
      refine eqi (x1 := nI (jw ||| 2 ^ j)) (nI_orb hj12) ?_
      refine lv_iload_n hx hb gX3_holdOrLeave_5.1 rfl (lv_at3 hl) ?_
      refine lv_iconst (v := 1) hx hb gX3_holdOrLeave_5.2.1 (by decide) ?_
      refine lv_iadd hx hb gX3_holdOrLeave_5.2.2.1 ?_
      refine eqi (x1 := nI (jc + 1)) (nI_1 jc) ?_
      refine lv_iload hx hb gX3_holdOrLeave_5.2.2.2.1 (lv_at4 hl) ?_
      have hre8 : RES (TRE B9 j jw) (GDW fbstamps V9 gp.toInt kbstamps) jl jb jl12556 jb12557 := w2571.1
      have hmk7 : MKP [fk0, fk1, fk2, fk3, fk4, fk5, fk6, fk7, fk8, fk9, fk10, fk11, fk12] [gk02558, gk12559, gk22560, gk32561, gk42562, gk52563, gk62564, gk72565, gk82566, gk92567, gk102568, gk112569, gk122570] 5 := hmk8.tr (w2571.2.le (by omega))
      have hle9 : jl12556 ≤ 13 := Nat.le_trans hre8.le hjl
      have hkm9 : CLB (KHL fbstamps B9 gp.toInt kbstamps j (jw ||| 2 ^ j)) (MAT (MGT [gk02558, gk12559, gk22560, gk32561, gk42562, gk52563, gk62564, gk72565, gk82566, gk92567, gk102568, gk112569, gk122570] 5)) := by rw [hmk7 5 (Nat.le_refl _), KHL.leave hSV]; exact hKH
      have hct9 : jc + 1 = PCN (jw ||| 2 ^ j) 12 := by rw [PCN.or hwj, if_pos hj12, hCT]
      refine vV (wr := []) hC hK hl hP hD hS hA (ihS j (by omega) V9 B9 h0 (jw ||| 2 ^ j) (jc + 1) 5 bb hd bo jl12556 jb12557 hf kc0 km0 gk02558 kc1 km1 gk12559 kc2 km2 gk22560 kc3 km3 gk32561 kc4 km4 gk42562 kc5 km5 gk52563 kc6 km6 gk62564 kc7 km7 gk72565 kc8 km8 gk82566 kc9 km9 gk92567 kc10 km10 gk102568 kc11 km11 gk112569 kc12 km12 gk122570 bpersons bpapers bstamps bversions blines bsteps bsayings bfindings bwarnings bquestions td vd vl gp bstampsc kbstamps fbstamps (by omega) (by omega) hh0 hh1 hh2 hh3 hh4 hh5 hh6 hh7 hh8 hh9 hh10 hh11 hh12 hSV hgp hBV hVB hBB (hWS.or hj12 hbj) hct9 hkm9 hle9) si_X3_55 [0, 1, 2, 3, 4, 5, 6, 7, 8, 9, 10, 11, 12, 13, 14, 15, 16, 17, 18, 19, 20, 21, 22, 23, 24, 25, 26, 27, 28, 29, 30] [] sm_0_1_2_3_4_5_6_7_8_9_10_11_12_13_14_15_16_17_18_19_20_21_22_23_24_25_26_27_28_29_30 fm_0_1_2_3_4_5_6_7_8_9_10_11_12_13_14_15_16_17_18_19_20_21_22_23_24_25_26_27_28_29_30 nd_0_1_2_3_4_5_6_7_8_9_10_11_12_13_14_15_16_17_18_19_20_21_22_23_24_25_26_27_28_29_30 rfl rfl (by decide) rfl rfl rfl rfl rfl (Nat.le_of_ble_eq_true rfl) ⟨by simp only [RM]; omega, by simp only [RM]; omega⟩ ⟨Nat.le_of_ble_eq_true rfl, Nat.le_of_ble_eq_true rfl⟩ gX3_holdOrLeave_5.2.2.2.2.1 (Ktu15 fun jl12574 jb12575 gk02576 gk12577 gk22578 gk32579 gk42580 gk52581 gk62582 gk72583 gk82584 gk92585 gk102586 gk112587 gk122588 => ?_)
      intro H locs hr2572 hP hD hS
      try dsimp only at hr2572
      refine Kpdr (ws := [(h0, oX3 bb hd bo (nI jl12574) (nI jb12575)), (hd, cA G 13 hf), (kc0, oX1 km0), (km0, iA G 36 gk02576), (kc1, oX1 km1), (km1, iA G 36 gk12577), (kc2, oX1 km2), (km2, iA G 36 gk22578), (kc3, oX1 km3), (km3, iA G 36 gk32579), (kc4, oX1 km4), (km4, iA G 36 gk42580), (kc5, oX1 km5), (km5, iA G 36 gk52581), (kc6, oX1 km6), (km6, iA G 36 gk62582), (kc7, oX1 km7), (km7, iA G 36 gk72583), (kc8, oX1 km8), (km8, iA G 36 gk82584), (kc9, oX1 km9), (km9, iA G 36 gk92585), (kc10, oX1 km10), (km10, iA G 36 gk102586), (kc11, oX1 km11), (km11, iA G 36 gk112587), (kc12, oX1 km12), (km12, iA G 36 gk122588), (bb, oX0 bpersons bpapers bstamps bversions blines bsteps bsayings bfindings bwarnings bquestions td vd vl gp), (bstamps, oX8 24 3 bstampsc (nI kbstamps)), (bstampsc, iA G 72 fbstamps)]) hP hD (fun hP hD => ?_)
      have w2589 := hr2572
      refine toQ hQ0 ?_
      exact RV hC hP hD hS [0, 1, 2, 3, 4, 5, 6, 7, 8, 9, 10, 11, 12, 13, 14, 15, 16, 17, 18, 19, 20, 21, 22, 23, 24, 25, 26, 27, 28, 29, 30] (jl12574, jb12575, gk02576, gk12577, gk22578, gk32579, gk42580, gk52581, gk62582, gk72583, gk82584, gk92585, gk102586, gk112587, gk122588) rfl rfl (by decide) (⟨RES.seq hre8 w2589.1 (fun W9 => TRE.two hwj hj12) (fun V8 W8 => TRE.lt hwj hj12), hmk7.tr w2589.2⟩) gX3_holdOrLeave_5.2.2.2.2.2
    · refine lv_if_eq (tgt := 67) hx hb gX3_holdOrLeave_3.1 (by decide) (fun _ => ?_) (fun c9 => absurd (by decide) c9)
      refine lv_aload_n hx hb gX3_holdOrLeave_4.2.1 rfl (lv_at0 hl) ?_
      refine lv_iload_n hx hb gX3_holdOrLeave_4.2.2.1 rfl (lv_at1 hl) ?_
      refine lv_iconst (v := 1) hx hb gX3_holdOrLeave_4.2.2.2.1 (by decide) ?_
      refine lv_isub hx hb gX3_holdOrLeave_4.2.2.2.2.1 ?_
      refine lv_iload_n hx hb gX3_holdOrLeave_4.2.2.2.2.2.1 rfl (lv_at2 hl) ?_
      refine lv_iconst (v := 1) hx hb gX3_holdOrLeave_4.2.2.2.2.2.2.1 (by decide) ?_
      refine lv_iload_n hx hb gX3_holdOrLeave_4.2.2.2.2.2.2.2.1 rfl (lv_at1 hl) ?_
      refine lv_ishl hx hb gX3_holdOrLeave_4.2.2.2.2.2.2.2.2.1 ?_
      refine lv_ior hx hb gX3_holdOrLeave_4.2.2.2.2.2.2.2.2.2 ?_
      refine eqi (x1 := nI (jw ||| 2 ^ j)) (nI_orb hj12) ?_
      refine lv_iload_n hx hb gX3_holdOrLeave_5.1 rfl (lv_at3 hl) ?_
      refine lv_iconst (v := 1) hx hb gX3_holdOrLeave_5.2.1 (by decide) ?_
      refine lv_iadd hx hb gX3_holdOrLeave_5.2.2.1 ?_
      refine eqi (x1 := nI (jc + 1)) (nI_1 jc) ?_
      refine lv_iload hx hb gX3_holdOrLeave_5.2.2.2.1 (lv_at4 hl) ?_
      have hno9 : NOS (KHL fbstamps B9 gp.toInt kbstamps j jw) := by have h9 := a2553; rw [KHL.hold hSV hbj hwj] at h9; exact h9
      have hre8 : RES (TRE B9 j jw) (GDW fbstamps V9 gp.toInt kbstamps) jl jb jl jb := RES.none (fun W9 h8 h9 => absurd h9 (KHL.none hSV hBV hno9 h8))
      have hmk7 : MKP [fk0, fk1, fk2, fk3, fk4, fk5, fk6, fk7, fk8, fk9, fk10, fk11, fk12] [fk0, fk1, fk2, fk3, fk4, fk5, gx2552, fk7, fk8, fk9, fk10, fk11, fk12] 5 := fun j9 h9 => by rcases (show j9 = 0 ∨ j9 = 1 ∨ j9 = 2 ∨ j9 = 3 ∨ j9 = 4 ∨ j9 = 5 by omega) with rfl | rfl | rfl | rfl | rfl | rfl <;> rfl
      have hle9 : jl ≤ 13 := Nat.le_trans hre8.le hjl
      have hkm9 : CLB (KHL fbstamps B9 gp.toInt kbstamps j (jw ||| 2 ^ j)) (MAT (MGT [fk0, fk1, fk2, fk3, fk4, fk5, gx2552, fk7, fk8, fk9, fk10, fk11, fk12] 5)) := by rw [hmk7 5 (Nat.le_refl _), KHL.leave hSV]; exact hKH
      have hct9 : jc + 1 = PCN (jw ||| 2 ^ j) 12 := by rw [PCN.or hwj, if_pos hj12, hCT]
      refine vV (wr := []) hC hK hl hP hD hS hA (ihS j (by omega) V9 B9 h0 (jw ||| 2 ^ j) (jc + 1) 5 bb hd bo jl jb hf kc0 km0 fk0 kc1 km1 fk1 kc2 km2 fk2 kc3 km3 fk3 kc4 km4 fk4 kc5 km5 fk5 kc6 km6 gx2552 kc7 km7 fk7 kc8 km8 fk8 kc9 km9 fk9 kc10 km10 fk10 kc11 km11 fk11 kc12 km12 fk12 bpersons bpapers bstamps bversions blines bsteps bsayings bfindings bwarnings bquestions td vd vl gp bstampsc kbstamps fbstamps (by omega) (by omega) hh0 hh1 hh2 hh3 hh4 hh5 hh6 hh7 hh8 hh9 hh10 hh11 hh12 hSV hgp hBV hVB hBB (hWS.or hj12 hbj) hct9 hkm9 hle9) si_X3_55 [25, 0, 1, 2, 3, 4, 5, 6, 7, 8, 9, 10, 23, 24, 29, 30, 11, 12, 13, 14, 15, 16, 17, 18, 19, 20, 21, 22, 26, 27, 28] [] sm_25_0_1_2_3_4_5_6_7_8_9_10_23_24_29_30_11_12_13_14_15_16_17_18_19_20_21_22_26_27_28 fm_25_0_1_2_3_4_5_6_7_8_9_10_23_24_29_30_11_12_13_14_15_16_17_18_19_20_21_22_26_27_28 nd_25_0_1_2_3_4_5_6_7_8_9_10_23_24_29_30_11_12_13_14_15_16_17_18_19_20_21_22_26_27_28 rfl rfl (by decide) rfl rfl rfl rfl rfl (Nat.le_of_ble_eq_true rfl) ⟨by simp only [RM]; omega, by simp only [RM]; omega⟩ ⟨Nat.le_of_ble_eq_true rfl, Nat.le_of_ble_eq_true rfl⟩ gX3_holdOrLeave_5.2.2.2.2.1 (Ktu15 fun jl12592 jb12593 gk02594 gk12595 gk22596 gk32597 gk42598 gk52599 gk62600 gk72601 gk82602 gk92603 gk102604 gk112605 gk122606 => ?_)
      intro H locs hr2590 hP hD hS
      try dsimp only at hr2590
      refine Kpdr (ws := [(h0, oX3 bb hd bo (nI jl12592) (nI jb12593)), (hd, cA G 13 hf), (kc0, oX1 km0), (km0, iA G 36 gk02594), (kc1, oX1 km1), (km1, iA G 36 gk12595), (kc2, oX1 km2), (km2, iA G 36 gk22596), (kc3, oX1 km3), (km3, iA G 36 gk32597), (kc4, oX1 km4), (km4, iA G 36 gk42598), (kc5, oX1 km5), (km5, iA G 36 gk52599), (kc6, oX1 km6), (km6, iA G 36 gk62600), (kc7, oX1 km7), (km7, iA G 36 gk72601), (kc8, oX1 km8), (km8, iA G 36 gk82602), (kc9, oX1 km9), (km9, iA G 36 gk92603), (kc10, oX1 km10), (km10, iA G 36 gk102604), (kc11, oX1 km11), (km11, iA G 36 gk112605), (kc12, oX1 km12), (km12, iA G 36 gk122606), (bb, oX0 bpersons bpapers bstamps bversions blines bsteps bsayings bfindings bwarnings bquestions td vd vl gp), (bstamps, oX8 24 3 bstampsc (nI kbstamps)), (bstampsc, iA G 72 fbstamps)]) hP hD (fun hP hD => ?_)
      have w2607 := hr2590
      refine toQ hQ0 ?_
      exact RV hC hP hD hS [0, 1, 2, 3, 4, 5, 6, 7, 8, 9, 10, 11, 12, 13, 14, 15, 16, 17, 18, 19, 20, 21, 22, 23, 24, 25, 26, 27, 28, 29, 30] (jl12592, jb12593, gk02594, gk12595, gk22596, gk32597, gk42598, gk52599, gk62600, gk72601, gk82602, gk92603, gk102604, gk112605, gk122606) rfl rfl (by decide) (⟨RES.seq hre8 w2607.1 (fun W9 => TRE.two hwj hj12) (fun V8 W8 => TRE.lt hwj hj12), hmk7.tr w2607.2⟩) gX3_holdOrLeave_5.2.2.2.2.2
  · have hl : lv_has ls 5 [(0, .ref h0), (1, .int (nI j)), (2, .int (nI jw)), (3, .int (nI jc)), (4, .int 6)] := hl
    refine lv_iload hx hb gX3_holdOrLeave_0.1 (lv_at4 hl) ?_
    refine lv_if_lt (tgt := 17) hx hb gX3_holdOrLeave_0.2.1 (by decide) (fun c9 => absurd c9 (by decide)) (fun _ => ?_)
    refine lv_iload hx hb gX3_holdOrLeave_0.2.2.1 (lv_at4 hl) ?_
    refine lv_iconst (v := 1) hx hb gX3_holdOrLeave_0.2.2.2.1 (by decide) ?_
    refine lv_iadd hx hb gX3_holdOrLeave_0.2.2.2.2.1 ?_
    refine eqi (x1 := 7) (by decide) ?_
    refine lv_aload_n hx hb gX3_holdOrLeave_0.2.2.2.2.2.1 rfl (lv_at0 hl) ?_
    refine gf_X3_11 hC rfl hK hP 0 rfl rfl gX3_holdOrLeave_0.2.2.2.2.2.2.1 ?_
    refine va_alen (v := 13) hx hb hK.1 hP 1 1 rfl rfl (show Int32.ofNat 13 = 13 by decide) gX3_holdOrLeave_0.2.2.2.2.2.2.2.1 ?_
    refine lv_icmp_lt (tgt := 18) hx hb gX3_holdOrLeave_0.2.2.2.2.2.2.2.2.1 (by decide) (fun _ => ?_) (fun c9 => absurd (by decide) c9)
    refine lv_aload_n hx hb gX3_holdOrLeave_1.1 rfl (lv_at0 hl) ?_
    refine gf_X3_11 hC rfl hK hP 0 rfl rfl gX3_holdOrLeave_1.2.1 ?_
    refine lv_iload hx hb gX3_holdOrLeave_1.2.2.1 (lv_at4 hl) ?_
    refine lv_iconst (v := 1) hx hb gX3_holdOrLeave_1.2.2.2.1 (by decide) ?_
    refine lv_iadd hx hb gX3_holdOrLeave_1.2.2.2.2.1 ?_
    refine eqi (x1 := 7) (by decide) ?_
    refine aldC hC hK hP 1 rfl (vin (by decide +kernel)) (k := 7) (by decide +kernel) (v := kc7) (hh7) gX3_holdOrLeave_1.2.2.2.2.2.1 ?_
    refine lv_aload_n hx hb gX3_holdOrLeave_1.2.2.2.2.2.2.1 rfl (lv_at0 hl) ?_
    refine gf_X3_11 hC rfl hK hP 0 rfl rfl gX3_holdOrLeave_1.2.2.2.2.2.2.2.1 ?_
    refine lv_iload hx hb gX3_holdOrLeave_1.2.2.2.2.2.2.2.2.1 (lv_at4 hl) ?_
    refine aldC hC hK hP 1 rfl (vin (by decide +kernel)) (k := 6) (by decide +kernel) (v := kc6) (hh6) gX3_holdOrLeave_1.2.2.2.2.2.2.2.2.2 ?_
    refine vV (wr := [(h0, oX3 bb hd bo (nI jl) (nI jb)), (hd, cA G 13 hf), (kc0, oX1 km0), (km0, iA G 36 fk0), (kc1, oX1 km1), (km1, iA G 36 fk1), (kc2, oX1 km2), (km2, iA G 36 fk2), (kc3, oX1 km3), (km3, iA G 36 fk3), (kc4, oX1 km4), (km4, iA G 36 fk4), (kc5, oX1 km5), (km5, iA G 36 fk5), (kc8, oX1 km8), (km8, iA G 36 fk8), (kc9, oX1 km9), (km9, iA G 36 fk9), (kc10, oX1 km10), (km10, iA G 36 fk10), (kc11, oX1 km11), (km11, iA G 36 fk11), (kc12, oX1 km12), (km12, iA G 36 fk12), (bb, oX0 bpersons bpapers bstamps bversions blines bsteps bsayings bfindings bwarnings bquestions td vd vl gp), (bstamps, oX8 24 3 bstampsc (nI kbstamps)), (bstampsc, iA G 72 fbstamps)]) hC hK hl hP hD hS hA (c_Cl_copyX l G kc7 kc6 km7 fk7 km6 fk6) si_X3_62 [16, 17, 14, 15] [0, 1, 2, 3, 4, 5, 6, 7, 8, 9, 10, 11, 12, 13, 18, 19, 20, 21, 22, 23, 24, 25, 26, 27, 28, 29, 30] sm_16_17_14_15 fm_16_17_14_15 nd_16_17_14_15 sm_0_1_2_3_4_5_6_7_8_9_10_11_12_13_18_19_20_21_22_23_24_25_26_27_28_29_30 nd_0_1_2_3_4_5_6_7_8_9_10_11_12_13_18_19_20_21_22_23_24_25_26_27_28_29_30 dj_16_17_14_15__0_1_2_3_4_5_6_7_8_9_10_11_12_13_18_19_20_21_22_23_24_25_26_27_28_29_30 rfl rfl rfl rfl rfl (Nat.le_of_ble_eq_true rfl) ⟨by simp only [RM]; omega, by simp only [RM]; omega⟩ ⟨Nat.le_of_ble_eq_true rfl, Nat.le_of_ble_eq_true rfl⟩ gX3_holdOrLeave_2.1 (fun f12610 H locs hr2608 hP hD hS => ?_)
    try dsimp only at hr2608
    refine Kpdr (ws := [(h0, oX3 bb hd bo (nI jl) (nI jb)), (hd, cA G 13 hf), (kc0, oX1 km0), (km0, iA G 36 fk0), (kc1, oX1 km1), (km1, iA G 36 fk1), (kc2, oX1 km2), (km2, iA G 36 fk2), (kc3, oX1 km3), (km3, iA G 36 fk3), (kc4, oX1 km4), (km4, iA G 36 fk4), (kc5, oX1 km5), (km5, iA G 36 fk5), (kc8, oX1 km8), (km8, iA G 36 fk8), (kc9, oX1 km9), (km9, iA G 36 fk9), (kc10, oX1 km10), (km10, iA G 36 fk10), (kc11, oX1 km11), (km11, iA G 36 fk11), (kc12, oX1 km12), (km12, iA G 36 fk12), (bb, oX0 bpersons bpapers bstamps bversions blines bsteps bsayings bfindings bwarnings bquestions td vd vl gp), (bstamps, oX8 24 3 bstampsc (nI kbstamps)), (bstampsc, iA G 72 fbstamps), (kc7, oX1 km7), (km7, iA G 36 f12610), (kc6, oX1 km6), (km6, iA G 36 fk6)]) hP hD (fun hP hD => ?_)
    have w2611 := hr2608
    refine lv_aload_n hx hb gX3_holdOrLeave_2.2.1 rfl (lv_at0 hl) ?_
    refine lv_iload_n hx hb gX3_holdOrLeave_2.2.2.1 rfl (lv_at1 hl) ?_
    refine lv_aload_n hx hb gX3_holdOrLeave_2.2.2.2.1 rfl (lv_at0 hl) ?_
    refine gf_X3_11 hC rfl hK hP 0 rfl rfl gX3_holdOrLeave_2.2.2.2.2.1 ?_
    refine lv_iload hx hb gX3_holdOrLeave_2.2.2.2.2.2.1 (lv_at4 hl) ?_
    refine lv_iconst (v := 1) hx hb gX3_holdOrLeave_2.2.2.2.2.2.2.1 (by decide) ?_
    refine lv_iadd hx hb gX3_holdOrLeave_2.2.2.2.2.2.2.2.1 ?_
    refine eqi (x1 := 7) (by decide) ?_
    refine aldC hC hK hP 1 rfl (vin (by decide +kernel)) (k := 7) (by decide +kernel) (v := kc7) (hh7) gX3_holdOrLeave_2.2.2.2.2.2.2.2.2.1 ?_
    have hcq9 : CLB (KHL fbstamps B9 gp.toInt kbstamps (j + 1) jw) (MAT f12610) := CLB.cg (f := fk6) hKH w2611
    refine iV (wr := [(hd, cA G 13 hf), (kc0, oX1 km0), (km0, iA G 36 fk0), (kc1, oX1 km1), (km1, iA G 36 fk1), (kc2, oX1 km2), (km2, iA G 36 fk2), (kc3, oX1 km3), (km3, iA G 36 fk3), (kc4, oX1 km4), (km4, iA G 36 fk4), (kc5, oX1 km5), (km5, iA G 36 fk5), (kc8, oX1 km8), (km8, iA G 36 fk8), (kc9, oX1 km9), (km9, iA G 36 fk9), (kc10, oX1 km10), (km10, iA G 36 fk10), (kc11, oX1 km11), (km11, iA G 36 fk11), (kc12, oX1 km12), (km12, iA G 36 fk12), (kc6, oX1 km6), (km6, iA G 36 fk6)]) hC hK hl hP hD hS hA (c_isRightX l G (KHL fbstamps B9 gp.toInt kbstamps (j + 1) jw) h0 j kc7 bb hd bo (nI jl) (nI jb) bpersons bpapers bstamps bversions blines bsteps bsayings bfindings bwarnings bquestions td vd vl gp bstampsc kbstamps fbstamps km7 f12610 (hkbstamps) (hcq9) (hSV) (hgp) (by omega)) si_X3_66 [0, 24, 25, 26, 27, 28] [1, 2, 3, 4, 5, 6, 7, 8, 9, 10, 11, 12, 13, 14, 15, 16, 17, 18, 19, 20, 21, 22, 23, 29, 30] sm_0_24_25_26_27_28 fm_0_24_25_26_27_28 nd_0_24_25_26_27_28 sm_1_2_3_4_5_6_7_8_9_10_11_12_13_14_15_16_17_18_19_20_21_22_23_29_30 nd_1_2_3_4_5_6_7_8_9_10_11_12_13_14_15_16_17_18_19_20_21_22_23_29_30 dj_0_24_25_26_27_28__1_2_3_4_5_6_7_8_9_10_11_12_13_14_15_16_17_18_19_20_21_22_23_29_30 rfl rfl rfl rfl rfl (Nat.le_of_ble_eq_true rfl) ⟨by simp only [RM]; omega, by simp only [RM]; omega⟩ ⟨Nat.le_of_ble_eq_true rfl, Nat.le_of_ble_eq_true rfl⟩ gX3_holdOrLeave_2.2.2.2.2.2.2.2.2.2 (fun r2612 gx2614 H locs hr2612 hP hD hS => ?_)
    try dsimp only at hr2612
    refine Kpdr (ws := [(hd, cA G 13 hf), (kc0, oX1 km0), (km0, iA G 36 fk0), (kc1, oX1 km1), (km1, iA G 36 fk1), (kc2, oX1 km2), (km2, iA G 36 fk2), (kc3, oX1 km3), (km3, iA G 36 fk3), (kc4, oX1 km4), (km4, iA G 36 fk4), (kc5, oX1 km5), (km5, iA G 36 fk5), (kc8, oX1 km8), (km8, iA G 36 fk8), (kc9, oX1 km9), (km9, iA G 36 fk9), (kc10, oX1 km10), (km10, iA G 36 fk10), (kc11, oX1 km11), (km11, iA G 36 fk11), (kc12, oX1 km12), (km12, iA G 36 fk12), (kc6, oX1 km6), (km6, iA G 36 fk6), (h0, oX3 bb hd bo (nI jl) (nI jb)), (bb, oX0 bpersons bpapers bstamps bversions blines bsteps bsayings bfindings bwarnings bquestions td vd vl gp), (bstamps, oX8 24 3 bstampsc (nI kbstamps)), (bstampsc, iA G 72 fbstamps), (kc7, oX1 km7), (km7, iA G 36 gx2614)]) hP hD (fun hP hD => ?_)
    rcases hr2612 with ⟨rfl, a2615⟩ | ⟨rfl, a2615⟩
    · refine lv_if_eq (tgt := 67) hx hb gX3_holdOrLeave_3.1 (by decide) (fun c9 => absurd c9 (by decide)) (fun _ => ?_)
      refine lv_aload_n hx hb gX3_holdOrLeave_3.2.1 rfl (lv_at0 hl) ?_
      refine lv_iload_n hx hb gX3_holdOrLeave_3.2.2.1 rfl (lv_at1 hl) ?_
      refine lv_iconst (v := 1) hx hb gX3_holdOrLeave_3.2.2.2.1 (by decide) ?_
      refine lv_isub hx hb gX3_holdOrLeave_3.2.2.2.2.1 ?_
      refine lv_iload_n hx hb gX3_holdOrLeave_3.2.2.2.2.2.1 rfl (lv_at2 hl) ?_
      refine lv_iload_n hx hb gX3_holdOrLeave_3.2.2.2.2.2.2.1 rfl (lv_at3 hl) ?_
      refine lv_iload hx hb gX3_holdOrLeave_3.2.2.2.2.2.2.2.1 (lv_at4 hl) ?_
      refine lv_iconst (v := 1) hx hb gX3_holdOrLeave_3.2.2.2.2.2.2.2.2.1 (by decide) ?_
      refine lv_iadd hx hb gX3_holdOrLeave_3.2.2.2.2.2.2.2.2.2 ?_
      refine eqi (x1 := 7) (by decide) ?_
      have hkn9 : CLB (KHL fbstamps B9 gp.toInt kbstamps j jw) (MAT (MGT [fk0, fk1, fk2, fk3, fk4, fk5, fk6, gx2614, fk8, fk9, fk10, fk11, fk12] 7)) := by have h9 := a2615; rw [KHL.hold hSV hbj hwj] at h9; exact h9
      have hmk8 : MKP [fk0, fk1, fk2, fk3, fk4, fk5, fk6, fk7, fk8, fk9, fk10, fk11, fk12] [fk0, fk1, fk2, fk3, fk4, fk5, fk6, gx2614, fk8, fk9, fk10, fk11, fk12] 6 := fun j9 h9 => by rcases (show j9 = 0 ∨ j9 = 1 ∨ j9 = 2 ∨ j9 = 3 ∨ j9 = 4 ∨ j9 = 5 ∨ j9 = 6 by omega) with rfl | rfl | rfl | rfl | rfl | rfl | rfl <;> rfl
      refine vV (wr := []) hC hK hl hP hD hS hA (ihS j (by omega) V9 B9 h0 jw jc 7 bb hd bo jl jb hf kc0 km0 fk0 kc1 km1 fk1 kc2 km2 fk2 kc3 km3 fk3 kc4 km4 fk4 kc5 km5 fk5 kc6 km6 fk6 kc7 km7 gx2614 kc8 km8 fk8 kc9 km9 fk9 kc10 km10 fk10 kc11 km11 fk11 kc12 km12 fk12 bpersons bpapers bstamps bversions blines bsteps bsayings bfindings bwarnings bquestions td vd vl gp bstampsc kbstamps fbstamps (by omega) (by omega) hh0 hh1 hh2 hh3 hh4 hh5 hh6 hh7 hh8 hh9 hh10 hh11 hh12 hSV hgp hBV hVB hBB hWS.dn hCT hkn9 hjl) si_X3_55 [25, 0, 1, 2, 3, 4, 5, 6, 7, 8, 9, 10, 11, 12, 23, 24, 29, 30, 13, 14, 15, 16, 17, 18, 19, 20, 21, 22, 26, 27, 28] [] sm_25_0_1_2_3_4_5_6_7_8_9_10_11_12_23_24_29_30_13_14_15_16_17_18_19_20_21_22_26_27_28 fm_25_0_1_2_3_4_5_6_7_8_9_10_11_12_23_24_29_30_13_14_15_16_17_18_19_20_21_22_26_27_28 nd_25_0_1_2_3_4_5_6_7_8_9_10_11_12_23_24_29_30_13_14_15_16_17_18_19_20_21_22_26_27_28 rfl rfl (by decide) rfl rfl rfl rfl rfl (Nat.le_of_ble_eq_true rfl) ⟨by simp only [RM]; omega, by simp only [RM]; omega⟩ ⟨Nat.le_of_ble_eq_true rfl, Nat.le_of_ble_eq_true rfl⟩ gX3_holdOrLeave_4.1 (Ktu15 fun jl12618 jb12619 gk02620 gk12621 gk22622 gk32623 gk42624 gk52625 gk62626 gk72627 gk82628 gk92629 gk102630 gk112631 gk122632 => ?_)
      intro H locs hr2616 hP hD hS
      try dsimp only at hr2616
      refine Kpdr (ws := [(h0, oX3 bb hd bo (nI jl12618) (nI jb12619)), (hd, cA G 13 hf), (kc0, oX1 km0), (km0, iA G 36 gk02620), (kc1, oX1 km1), (km1, iA G 36 gk12621), (kc2, oX1 km2), (km2, iA G 36 gk22622), (kc3, oX1 km3), (km3, iA G 36 gk32623), (kc4, oX1 km4), (km4, iA G 36 gk42624), (kc5, oX1 km5), (km5, iA G 36 gk52625), (kc6, oX1 km6), (km6, iA G 36 gk62626), (kc7, oX1 km7), (km7, iA G 36 gk72627), (kc8, oX1 km8), (km8, iA G 36 gk82628), (kc9, oX1 km9), (km9, iA G 36 gk92629), (kc10, oX1 km10), (km10, iA G 36 gk102630), (kc11, oX1 km11), (km11, iA G 36 gk112631), (kc12, oX1 km12), (km12, iA G 36 gk122632), (bb, oX0 bpersons bpapers bstamps bversions blines bsteps bsayings bfindings bwarnings bquestions td vd vl gp), (bstamps, oX8 24 3 bstampsc (nI kbstamps)), (bstampsc, iA G 72 fbstamps)]) hP hD (fun hP hD => ?_)
      have w2633 := hr2616
      refine lv_aload_n hx hb gX3_holdOrLeave_4.2.1 rfl (lv_at0 hl) ?_
      refine lv_iload_n hx hb gX3_holdOrLeave_4.2.2.1 rfl (lv_at1 hl) ?_
      refine lv_iconst (v := 1) hx hb gX3_holdOrLeave_4.2.2.2.1 (by decide) ?_
      refine lv_isub hx hb gX3_holdOrLeave_4.2.2.2.2.1 ?_
      refine lv_iload_n hx hb gX3_holdOrLeave_4.2.2.2.2.2.1 rfl (lv_at2 hl) ?_
      refine lv_iconst (v := 1) hx hb gX3_holdOrLeave_4.2.2.2.2.2.2.1 (by decide) ?_
      refine lv_iload_n hx hb gX3_holdOrLeave_4.2.2.2.2.2.2.2.1 rfl (lv_at1 hl) ?_
      refine lv_ishl hx hb gX3_holdOrLeave_4.2.2.2.2.2.2.2.2.1 ?_
      refine lv_ior hx hb gX3_holdOrLeave_4.2.2.2.2.2.2.2.2.2 ?_
      refine eqi (x1 := nI (jw ||| 2 ^ j)) (nI_orb hj12) ?_
      refine lv_iload_n hx hb gX3_holdOrLeave_5.1 rfl (lv_at3 hl) ?_
      refine lv_iconst (v := 1) hx hb gX3_holdOrLeave_5.2.1 (by decide) ?_
      refine lv_iadd hx hb gX3_holdOrLeave_5.2.2.1 ?_
      refine eqi (x1 := nI (jc + 1)) (nI_1 jc) ?_
      refine lv_iload hx hb gX3_holdOrLeave_5.2.2.2.1 (lv_at4 hl) ?_
      have hre8 : RES (TRE B9 j jw) (GDW fbstamps V9 gp.toInt kbstamps) jl jb jl12618 jb12619 := w2633.1
      have hmk7 : MKP [fk0, fk1, fk2, fk3, fk4, fk5, fk6, fk7, fk8, fk9, fk10, fk11, fk12] [gk02620, gk12621, gk22622, gk32623, gk42624, gk52625, gk62626, gk72627, gk82628, gk92629, gk102630, gk112631, gk122632] 6 := hmk8.tr (w2633.2.le (by omega))
      have hle9 : jl12618 ≤ 13 := Nat.le_trans hre8.le hjl
      have hkm9 : CLB (KHL fbstamps B9 gp.toInt kbstamps j (jw ||| 2 ^ j)) (MAT (MGT [gk02620, gk12621, gk22622, gk32623, gk42624, gk52625, gk62626, gk72627, gk82628, gk92629, gk102630, gk112631, gk122632] 6)) := by rw [hmk7 6 (Nat.le_refl _), KHL.leave hSV]; exact hKH
      have hct9 : jc + 1 = PCN (jw ||| 2 ^ j) 12 := by rw [PCN.or hwj, if_pos hj12, hCT]
      refine vV (wr := []) hC hK hl hP hD hS hA (ihS j (by omega) V9 B9 h0 (jw ||| 2 ^ j) (jc + 1) 6 bb hd bo jl12618 jb12619 hf kc0 km0 gk02620 kc1 km1 gk12621 kc2 km2 gk22622 kc3 km3 gk32623 kc4 km4 gk42624 kc5 km5 gk52625 kc6 km6 gk62626 kc7 km7 gk72627 kc8 km8 gk82628 kc9 km9 gk92629 kc10 km10 gk102630 kc11 km11 gk112631 kc12 km12 gk122632 bpersons bpapers bstamps bversions blines bsteps bsayings bfindings bwarnings bquestions td vd vl gp bstampsc kbstamps fbstamps (by omega) (by omega) hh0 hh1 hh2 hh3 hh4 hh5 hh6 hh7 hh8 hh9 hh10 hh11 hh12 hSV hgp hBV hVB hBB (hWS.or hj12 hbj) hct9 hkm9 hle9) si_X3_55 [0, 1, 2, 3, 4, 5, 6, 7, 8, 9, 10, 11, 12, 13, 14, 15, 16, 17, 18, 19, 20, 21, 22, 23, 24, 25, 26, 27, 28, 29, 30] [] sm_0_1_2_3_4_5_6_7_8_9_10_11_12_13_14_15_16_17_18_19_20_21_22_23_24_25_26_27_28_29_30 fm_0_1_2_3_4_5_6_7_8_9_10_11_12_13_14_15_16_17_18_19_20_21_22_23_24_25_26_27_28_29_30 nd_0_1_2_3_4_5_6_7_8_9_10_11_12_13_14_15_16_17_18_19_20_21_22_23_24_25_26_27_28_29_30 rfl rfl (by decide) rfl rfl rfl rfl rfl (Nat.le_of_ble_eq_true rfl) ⟨by simp only [RM]; omega, by simp only [RM]; omega⟩ ⟨Nat.le_of_ble_eq_true rfl, Nat.le_of_ble_eq_true rfl⟩ gX3_holdOrLeave_5.2.2.2.2.1 (Ktu15 fun jl12636 jb12637 gk02638 gk12639 gk22640 gk32641 gk42642 gk52643 gk62644 gk72645 gk82646 gk92647 gk102648 gk112649 gk122650 => ?_)
      intro H locs hr2634 hP hD hS
      try dsimp only at hr2634
      refine Kpdr (ws := [(h0, oX3 bb hd bo (nI jl12636) (nI jb12637)), (hd, cA G 13 hf), (kc0, oX1 km0), (km0, iA G 36 gk02638), (kc1, oX1 km1), (km1, iA G 36 gk12639), (kc2, oX1 km2), (km2, iA G 36 gk22640), (kc3, oX1 km3), (km3, iA G 36 gk32641), (kc4, oX1 km4), (km4, iA G 36 gk42642), (kc5, oX1 km5), (km5, iA G 36 gk52643), (kc6, oX1 km6), (km6, iA G 36 gk62644), (kc7, oX1 km7), (km7, iA G 36 gk72645), (kc8, oX1 km8), (km8, iA G 36 gk82646), (kc9, oX1 km9), (km9, iA G 36 gk92647), (kc10, oX1 km10), (km10, iA G 36 gk102648), (kc11, oX1 km11), (km11, iA G 36 gk112649), (kc12, oX1 km12), (km12, iA G 36 gk122650), (bb, oX0 bpersons bpapers bstamps bversions blines bsteps bsayings bfindings bwarnings bquestions td vd vl gp), (bstamps, oX8 24 3 bstampsc (nI kbstamps)), (bstampsc, iA G 72 fbstamps)]) hP hD (fun hP hD => ?_)
      have w2651 := hr2634
      refine toQ hQ0 ?_
      exact RV hC hP hD hS [0, 1, 2, 3, 4, 5, 6, 7, 8, 9, 10, 11, 12, 13, 14, 15, 16, 17, 18, 19, 20, 21, 22, 23, 24, 25, 26, 27, 28, 29, 30] (jl12636, jb12637, gk02638, gk12639, gk22640, gk32641, gk42642, gk52643, gk62644, gk72645, gk82646, gk92647, gk102648, gk112649, gk122650) rfl rfl (by decide) (⟨RES.seq hre8 w2651.1 (fun W9 => TRE.two hwj hj12) (fun V8 W8 => TRE.lt hwj hj12), hmk7.tr w2651.2⟩) gX3_holdOrLeave_5.2.2.2.2.2
    · refine lv_if_eq (tgt := 67) hx hb gX3_holdOrLeave_3.1 (by decide) (fun _ => ?_) (fun c9 => absurd (by decide) c9)
      refine lv_aload_n hx hb gX3_holdOrLeave_4.2.1 rfl (lv_at0 hl) ?_
      refine lv_iload_n hx hb gX3_holdOrLeave_4.2.2.1 rfl (lv_at1 hl) ?_
      refine lv_iconst (v := 1) hx hb gX3_holdOrLeave_4.2.2.2.1 (by decide) ?_
      refine lv_isub hx hb gX3_holdOrLeave_4.2.2.2.2.1 ?_
      refine lv_iload_n hx hb gX3_holdOrLeave_4.2.2.2.2.2.1 rfl (lv_at2 hl) ?_
      refine lv_iconst (v := 1) hx hb gX3_holdOrLeave_4.2.2.2.2.2.2.1 (by decide) ?_
      refine lv_iload_n hx hb gX3_holdOrLeave_4.2.2.2.2.2.2.2.1 rfl (lv_at1 hl) ?_
      refine lv_ishl hx hb gX3_holdOrLeave_4.2.2.2.2.2.2.2.2.1 ?_
      refine lv_ior hx hb gX3_holdOrLeave_4.2.2.2.2.2.2.2.2.2 ?_
      refine eqi (x1 := nI (jw ||| 2 ^ j)) (nI_orb hj12) ?_
      refine lv_iload_n hx hb gX3_holdOrLeave_5.1 rfl (lv_at3 hl) ?_
      refine lv_iconst (v := 1) hx hb gX3_holdOrLeave_5.2.1 (by decide) ?_
      refine lv_iadd hx hb gX3_holdOrLeave_5.2.2.1 ?_
      refine eqi (x1 := nI (jc + 1)) (nI_1 jc) ?_
      refine lv_iload hx hb gX3_holdOrLeave_5.2.2.2.1 (lv_at4 hl) ?_
      have hno9 : NOS (KHL fbstamps B9 gp.toInt kbstamps j jw) := by have h9 := a2615; rw [KHL.hold hSV hbj hwj] at h9; exact h9
      have hre8 : RES (TRE B9 j jw) (GDW fbstamps V9 gp.toInt kbstamps) jl jb jl jb := RES.none (fun W9 h8 h9 => absurd h9 (KHL.none hSV hBV hno9 h8))
      have hmk7 : MKP [fk0, fk1, fk2, fk3, fk4, fk5, fk6, fk7, fk8, fk9, fk10, fk11, fk12] [fk0, fk1, fk2, fk3, fk4, fk5, fk6, gx2614, fk8, fk9, fk10, fk11, fk12] 6 := fun j9 h9 => by rcases (show j9 = 0 ∨ j9 = 1 ∨ j9 = 2 ∨ j9 = 3 ∨ j9 = 4 ∨ j9 = 5 ∨ j9 = 6 by omega) with rfl | rfl | rfl | rfl | rfl | rfl | rfl <;> rfl
      have hle9 : jl ≤ 13 := Nat.le_trans hre8.le hjl
      have hkm9 : CLB (KHL fbstamps B9 gp.toInt kbstamps j (jw ||| 2 ^ j)) (MAT (MGT [fk0, fk1, fk2, fk3, fk4, fk5, fk6, gx2614, fk8, fk9, fk10, fk11, fk12] 6)) := by rw [hmk7 6 (Nat.le_refl _), KHL.leave hSV]; exact hKH
      have hct9 : jc + 1 = PCN (jw ||| 2 ^ j) 12 := by rw [PCN.or hwj, if_pos hj12, hCT]
      refine vV (wr := []) hC hK hl hP hD hS hA (ihS j (by omega) V9 B9 h0 (jw ||| 2 ^ j) (jc + 1) 6 bb hd bo jl jb hf kc0 km0 fk0 kc1 km1 fk1 kc2 km2 fk2 kc3 km3 fk3 kc4 km4 fk4 kc5 km5 fk5 kc6 km6 fk6 kc7 km7 gx2614 kc8 km8 fk8 kc9 km9 fk9 kc10 km10 fk10 kc11 km11 fk11 kc12 km12 fk12 bpersons bpapers bstamps bversions blines bsteps bsayings bfindings bwarnings bquestions td vd vl gp bstampsc kbstamps fbstamps (by omega) (by omega) hh0 hh1 hh2 hh3 hh4 hh5 hh6 hh7 hh8 hh9 hh10 hh11 hh12 hSV hgp hBV hVB hBB (hWS.or hj12 hbj) hct9 hkm9 hle9) si_X3_55 [25, 0, 1, 2, 3, 4, 5, 6, 7, 8, 9, 10, 11, 12, 23, 24, 29, 30, 13, 14, 15, 16, 17, 18, 19, 20, 21, 22, 26, 27, 28] [] sm_25_0_1_2_3_4_5_6_7_8_9_10_11_12_23_24_29_30_13_14_15_16_17_18_19_20_21_22_26_27_28 fm_25_0_1_2_3_4_5_6_7_8_9_10_11_12_23_24_29_30_13_14_15_16_17_18_19_20_21_22_26_27_28 nd_25_0_1_2_3_4_5_6_7_8_9_10_11_12_23_24_29_30_13_14_15_16_17_18_19_20_21_22_26_27_28 rfl rfl (by decide) rfl rfl rfl rfl rfl (Nat.le_of_ble_eq_true rfl) ⟨by simp only [RM]; omega, by simp only [RM]; omega⟩ ⟨Nat.le_of_ble_eq_true rfl, Nat.le_of_ble_eq_true rfl⟩ gX3_holdOrLeave_5.2.2.2.2.1 (Ktu15 fun jl12654 jb12655 gk02656 gk12657 gk22658 gk32659 gk42660 gk52661 gk62662 gk72663 gk82664 gk92665 gk102666 gk112667 gk122668 => ?_)
      intro H locs hr2652 hP hD hS
      try dsimp only at hr2652
      refine Kpdr (ws := [(h0, oX3 bb hd bo (nI jl12654) (nI jb12655)), (hd, cA G 13 hf), (kc0, oX1 km0), (km0, iA G 36 gk02656), (kc1, oX1 km1), (km1, iA G 36 gk12657), (kc2, oX1 km2), (km2, iA G 36 gk22658), (kc3, oX1 km3), (km3, iA G 36 gk32659), (kc4, oX1 km4), (km4, iA G 36 gk42660), (kc5, oX1 km5), (km5, iA G 36 gk52661), (kc6, oX1 km6), (km6, iA G 36 gk62662), (kc7, oX1 km7), (km7, iA G 36 gk72663), (kc8, oX1 km8), (km8, iA G 36 gk82664), (kc9, oX1 km9), (km9, iA G 36 gk92665), (kc10, oX1 km10), (km10, iA G 36 gk102666), (kc11, oX1 km11), (km11, iA G 36 gk112667), (kc12, oX1 km12), (km12, iA G 36 gk122668), (bb, oX0 bpersons bpapers bstamps bversions blines bsteps bsayings bfindings bwarnings bquestions td vd vl gp), (bstamps, oX8 24 3 bstampsc (nI kbstamps)), (bstampsc, iA G 72 fbstamps)]) hP hD (fun hP hD => ?_)
      have w2669 := hr2652
      refine toQ hQ0 ?_
      exact RV hC hP hD hS [0, 1, 2, 3, 4, 5, 6, 7, 8, 9, 10, 11, 12, 13, 14, 15, 16, 17, 18, 19, 20, 21, 22, 23, 24, 25, 26, 27, 28, 29, 30] (jl12654, jb12655, gk02656, gk12657, gk22658, gk32659, gk42660, gk52661, gk62662, gk72663, gk82664, gk92665, gk102666, gk112667, gk122668) rfl rfl (by decide) (⟨RES.seq hre8 w2669.1 (fun W9 => TRE.two hwj hj12) (fun V8 W8 => TRE.lt hwj hj12), hmk7.tr w2669.2⟩) gX3_holdOrLeave_5.2.2.2.2.2
  · have hl : lv_has ls 5 [(0, .ref h0), (1, .int (nI j)), (2, .int (nI jw)), (3, .int (nI jc)), (4, .int 7)] := hl
    refine lv_iload hx hb gX3_holdOrLeave_0.1 (lv_at4 hl) ?_
    refine lv_if_lt (tgt := 17) hx hb gX3_holdOrLeave_0.2.1 (by decide) (fun c9 => absurd c9 (by decide)) (fun _ => ?_)
    refine lv_iload hx hb gX3_holdOrLeave_0.2.2.1 (lv_at4 hl) ?_
    refine lv_iconst (v := 1) hx hb gX3_holdOrLeave_0.2.2.2.1 (by decide) ?_
    refine lv_iadd hx hb gX3_holdOrLeave_0.2.2.2.2.1 ?_
    refine eqi (x1 := 8) (by decide) ?_
    refine lv_aload_n hx hb gX3_holdOrLeave_0.2.2.2.2.2.1 rfl (lv_at0 hl) ?_
    refine gf_X3_11 hC rfl hK hP 0 rfl rfl gX3_holdOrLeave_0.2.2.2.2.2.2.1 ?_
    refine va_alen (v := 13) hx hb hK.1 hP 1 1 rfl rfl (show Int32.ofNat 13 = 13 by decide) gX3_holdOrLeave_0.2.2.2.2.2.2.2.1 ?_
    refine lv_icmp_lt (tgt := 18) hx hb gX3_holdOrLeave_0.2.2.2.2.2.2.2.2.1 (by decide) (fun _ => ?_) (fun c9 => absurd (by decide) c9)
    refine lv_aload_n hx hb gX3_holdOrLeave_1.1 rfl (lv_at0 hl) ?_
    refine gf_X3_11 hC rfl hK hP 0 rfl rfl gX3_holdOrLeave_1.2.1 ?_
    refine lv_iload hx hb gX3_holdOrLeave_1.2.2.1 (lv_at4 hl) ?_
    refine lv_iconst (v := 1) hx hb gX3_holdOrLeave_1.2.2.2.1 (by decide) ?_
    refine lv_iadd hx hb gX3_holdOrLeave_1.2.2.2.2.1 ?_
    refine eqi (x1 := 8) (by decide) ?_
    refine aldC hC hK hP 1 rfl (vin (by decide +kernel)) (k := 8) (by decide +kernel) (v := kc8) (hh8) gX3_holdOrLeave_1.2.2.2.2.2.1 ?_
    refine lv_aload_n hx hb gX3_holdOrLeave_1.2.2.2.2.2.2.1 rfl (lv_at0 hl) ?_
    refine gf_X3_11 hC rfl hK hP 0 rfl rfl gX3_holdOrLeave_1.2.2.2.2.2.2.2.1 ?_
    refine lv_iload hx hb gX3_holdOrLeave_1.2.2.2.2.2.2.2.2.1 (lv_at4 hl) ?_
    refine aldC hC hK hP 1 rfl (vin (by decide +kernel)) (k := 7) (by decide +kernel) (v := kc7) (hh7) gX3_holdOrLeave_1.2.2.2.2.2.2.2.2.2 ?_
    refine vV (wr := [(h0, oX3 bb hd bo (nI jl) (nI jb)), (hd, cA G 13 hf), (kc0, oX1 km0), (km0, iA G 36 fk0), (kc1, oX1 km1), (km1, iA G 36 fk1), (kc2, oX1 km2), (km2, iA G 36 fk2), (kc3, oX1 km3), (km3, iA G 36 fk3), (kc4, oX1 km4), (km4, iA G 36 fk4), (kc5, oX1 km5), (km5, iA G 36 fk5), (kc6, oX1 km6), (km6, iA G 36 fk6), (kc9, oX1 km9), (km9, iA G 36 fk9), (kc10, oX1 km10), (km10, iA G 36 fk10), (kc11, oX1 km11), (km11, iA G 36 fk11), (kc12, oX1 km12), (km12, iA G 36 fk12), (bb, oX0 bpersons bpapers bstamps bversions blines bsteps bsayings bfindings bwarnings bquestions td vd vl gp), (bstamps, oX8 24 3 bstampsc (nI kbstamps)), (bstampsc, iA G 72 fbstamps)]) hC hK hl hP hD hS hA (c_Cl_copyX l G kc8 kc7 km8 fk8 km7 fk7) si_X3_62 [18, 19, 16, 17] [0, 1, 2, 3, 4, 5, 6, 7, 8, 9, 10, 11, 12, 13, 14, 15, 20, 21, 22, 23, 24, 25, 26, 27, 28, 29, 30] sm_18_19_16_17 fm_18_19_16_17 nd_18_19_16_17 sm_0_1_2_3_4_5_6_7_8_9_10_11_12_13_14_15_20_21_22_23_24_25_26_27_28_29_30 nd_0_1_2_3_4_5_6_7_8_9_10_11_12_13_14_15_20_21_22_23_24_25_26_27_28_29_30 dj_18_19_16_17__0_1_2_3_4_5_6_7_8_9_10_11_12_13_14_15_20_21_22_23_24_25_26_27_28_29_30 rfl rfl rfl rfl rfl (Nat.le_of_ble_eq_true rfl) ⟨by simp only [RM]; omega, by simp only [RM]; omega⟩ ⟨Nat.le_of_ble_eq_true rfl, Nat.le_of_ble_eq_true rfl⟩ gX3_holdOrLeave_2.1 (fun f12672 H locs hr2670 hP hD hS => ?_)
    try dsimp only at hr2670
    refine Kpdr (ws := [(h0, oX3 bb hd bo (nI jl) (nI jb)), (hd, cA G 13 hf), (kc0, oX1 km0), (km0, iA G 36 fk0), (kc1, oX1 km1), (km1, iA G 36 fk1), (kc2, oX1 km2), (km2, iA G 36 fk2), (kc3, oX1 km3), (km3, iA G 36 fk3), (kc4, oX1 km4), (km4, iA G 36 fk4), (kc5, oX1 km5), (km5, iA G 36 fk5), (kc6, oX1 km6), (km6, iA G 36 fk6), (kc9, oX1 km9), (km9, iA G 36 fk9), (kc10, oX1 km10), (km10, iA G 36 fk10), (kc11, oX1 km11), (km11, iA G 36 fk11), (kc12, oX1 km12), (km12, iA G 36 fk12), (bb, oX0 bpersons bpapers bstamps bversions blines bsteps bsayings bfindings bwarnings bquestions td vd vl gp), (bstamps, oX8 24 3 bstampsc (nI kbstamps)), (bstampsc, iA G 72 fbstamps), (kc8, oX1 km8), (km8, iA G 36 f12672), (kc7, oX1 km7), (km7, iA G 36 fk7)]) hP hD (fun hP hD => ?_)
    have w2673 := hr2670
    refine lv_aload_n hx hb gX3_holdOrLeave_2.2.1 rfl (lv_at0 hl) ?_
    refine lv_iload_n hx hb gX3_holdOrLeave_2.2.2.1 rfl (lv_at1 hl) ?_
    refine lv_aload_n hx hb gX3_holdOrLeave_2.2.2.2.1 rfl (lv_at0 hl) ?_
    refine gf_X3_11 hC rfl hK hP 0 rfl rfl gX3_holdOrLeave_2.2.2.2.2.1 ?_
    refine lv_iload hx hb gX3_holdOrLeave_2.2.2.2.2.2.1 (lv_at4 hl) ?_
    refine lv_iconst (v := 1) hx hb gX3_holdOrLeave_2.2.2.2.2.2.2.1 (by decide) ?_
    refine lv_iadd hx hb gX3_holdOrLeave_2.2.2.2.2.2.2.2.1 ?_
    refine eqi (x1 := 8) (by decide) ?_
    refine aldC hC hK hP 1 rfl (vin (by decide +kernel)) (k := 8) (by decide +kernel) (v := kc8) (hh8) gX3_holdOrLeave_2.2.2.2.2.2.2.2.2.1 ?_
    have hcq9 : CLB (KHL fbstamps B9 gp.toInt kbstamps (j + 1) jw) (MAT f12672) := CLB.cg (f := fk7) hKH w2673
    refine iV (wr := [(hd, cA G 13 hf), (kc0, oX1 km0), (km0, iA G 36 fk0), (kc1, oX1 km1), (km1, iA G 36 fk1), (kc2, oX1 km2), (km2, iA G 36 fk2), (kc3, oX1 km3), (km3, iA G 36 fk3), (kc4, oX1 km4), (km4, iA G 36 fk4), (kc5, oX1 km5), (km5, iA G 36 fk5), (kc6, oX1 km6), (km6, iA G 36 fk6), (kc9, oX1 km9), (km9, iA G 36 fk9), (kc10, oX1 km10), (km10, iA G 36 fk10), (kc11, oX1 km11), (km11, iA G 36 fk11), (kc12, oX1 km12), (km12, iA G 36 fk12), (kc7, oX1 km7), (km7, iA G 36 fk7)]) hC hK hl hP hD hS hA (c_isRightX l G (KHL fbstamps B9 gp.toInt kbstamps (j + 1) jw) h0 j kc8 bb hd bo (nI jl) (nI jb) bpersons bpapers bstamps bversions blines bsteps bsayings bfindings bwarnings bquestions td vd vl gp bstampsc kbstamps fbstamps km8 f12672 (hkbstamps) (hcq9) (hSV) (hgp) (by omega)) si_X3_66 [0, 24, 25, 26, 27, 28] [1, 2, 3, 4, 5, 6, 7, 8, 9, 10, 11, 12, 13, 14, 15, 16, 17, 18, 19, 20, 21, 22, 23, 29, 30] sm_0_24_25_26_27_28 fm_0_24_25_26_27_28 nd_0_24_25_26_27_28 sm_1_2_3_4_5_6_7_8_9_10_11_12_13_14_15_16_17_18_19_20_21_22_23_29_30 nd_1_2_3_4_5_6_7_8_9_10_11_12_13_14_15_16_17_18_19_20_21_22_23_29_30 dj_0_24_25_26_27_28__1_2_3_4_5_6_7_8_9_10_11_12_13_14_15_16_17_18_19_20_21_22_23_29_30 rfl rfl rfl rfl rfl (Nat.le_of_ble_eq_true rfl) ⟨by simp only [RM]; omega, by simp only [RM]; omega⟩ ⟨Nat.le_of_ble_eq_true rfl, Nat.le_of_ble_eq_true rfl⟩ gX3_holdOrLeave_2.2.2.2.2.2.2.2.2.2 (fun r2674 gx2676 H locs hr2674 hP hD hS => ?_)
    try dsimp only at hr2674
    refine Kpdr (ws := [(hd, cA G 13 hf), (kc0, oX1 km0), (km0, iA G 36 fk0), (kc1, oX1 km1), (km1, iA G 36 fk1), (kc2, oX1 km2), (km2, iA G 36 fk2), (kc3, oX1 km3), (km3, iA G 36 fk3), (kc4, oX1 km4), (km4, iA G 36 fk4), (kc5, oX1 km5), (km5, iA G 36 fk5), (kc6, oX1 km6), (km6, iA G 36 fk6), (kc9, oX1 km9), (km9, iA G 36 fk9), (kc10, oX1 km10), (km10, iA G 36 fk10), (kc11, oX1 km11), (km11, iA G 36 fk11), (kc12, oX1 km12), (km12, iA G 36 fk12), (kc7, oX1 km7), (km7, iA G 36 fk7), (h0, oX3 bb hd bo (nI jl) (nI jb)), (bb, oX0 bpersons bpapers bstamps bversions blines bsteps bsayings bfindings bwarnings bquestions td vd vl gp), (bstamps, oX8 24 3 bstampsc (nI kbstamps)), (bstampsc, iA G 72 fbstamps), (kc8, oX1 km8), (km8, iA G 36 gx2676)]) hP hD (fun hP hD => ?_)
    rcases hr2674 with ⟨rfl, a2677⟩ | ⟨rfl, a2677⟩
    · refine lv_if_eq (tgt := 67) hx hb gX3_holdOrLeave_3.1 (by decide) (fun c9 => absurd c9 (by decide)) (fun _ => ?_)
      refine lv_aload_n hx hb gX3_holdOrLeave_3.2.1 rfl (lv_at0 hl) ?_
      refine lv_iload_n hx hb gX3_holdOrLeave_3.2.2.1 rfl (lv_at1 hl) ?_
      refine lv_iconst (v := 1) hx hb gX3_holdOrLeave_3.2.2.2.1 (by decide) ?_
      refine lv_isub hx hb gX3_holdOrLeave_3.2.2.2.2.1 ?_
      refine lv_iload_n hx hb gX3_holdOrLeave_3.2.2.2.2.2.1 rfl (lv_at2 hl) ?_
      refine lv_iload_n hx hb gX3_holdOrLeave_3.2.2.2.2.2.2.1 rfl (lv_at3 hl) ?_
      refine lv_iload hx hb gX3_holdOrLeave_3.2.2.2.2.2.2.2.1 (lv_at4 hl) ?_
      refine lv_iconst (v := 1) hx hb gX3_holdOrLeave_3.2.2.2.2.2.2.2.2.1 (by decide) ?_
      refine lv_iadd hx hb gX3_holdOrLeave_3.2.2.2.2.2.2.2.2.2 ?_
      refine eqi (x1 := 8) (by decide) ?_
      have hkn9 : CLB (KHL fbstamps B9 gp.toInt kbstamps j jw) (MAT (MGT [fk0, fk1, fk2, fk3, fk4, fk5, fk6, fk7, gx2676, fk9, fk10, fk11, fk12] 8)) := by have h9 := a2677; rw [KHL.hold hSV hbj hwj] at h9; exact h9
      have hmk8 : MKP [fk0, fk1, fk2, fk3, fk4, fk5, fk6, fk7, fk8, fk9, fk10, fk11, fk12] [fk0, fk1, fk2, fk3, fk4, fk5, fk6, fk7, gx2676, fk9, fk10, fk11, fk12] 7 := fun j9 h9 => by rcases (show j9 = 0 ∨ j9 = 1 ∨ j9 = 2 ∨ j9 = 3 ∨ j9 = 4 ∨ j9 = 5 ∨ j9 = 6 ∨ j9 = 7 by omega) with rfl | rfl | rfl | rfl | rfl | rfl | rfl | rfl <;> rfl
      refine vV (wr := []) hC hK hl hP hD hS hA (ihS j (by omega) V9 B9 h0 jw jc 8 bb hd bo jl jb hf kc0 km0 fk0 kc1 km1 fk1 kc2 km2 fk2 kc3 km3 fk3 kc4 km4 fk4 kc5 km5 fk5 kc6 km6 fk6 kc7 km7 fk7 kc8 km8 gx2676 kc9 km9 fk9 kc10 km10 fk10 kc11 km11 fk11 kc12 km12 fk12 bpersons bpapers bstamps bversions blines bsteps bsayings bfindings bwarnings bquestions td vd vl gp bstampsc kbstamps fbstamps (by omega) (by omega) hh0 hh1 hh2 hh3 hh4 hh5 hh6 hh7 hh8 hh9 hh10 hh11 hh12 hSV hgp hBV hVB hBB hWS.dn hCT hkn9 hjl) si_X3_55 [25, 0, 1, 2, 3, 4, 5, 6, 7, 8, 9, 10, 11, 12, 13, 14, 23, 24, 29, 30, 15, 16, 17, 18, 19, 20, 21, 22, 26, 27, 28] [] sm_25_0_1_2_3_4_5_6_7_8_9_10_11_12_13_14_23_24_29_30_15_16_17_18_19_20_21_22_26_27_28 fm_25_0_1_2_3_4_5_6_7_8_9_10_11_12_13_14_23_24_29_30_15_16_17_18_19_20_21_22_26_27_28 nd_25_0_1_2_3_4_5_6_7_8_9_10_11_12_13_14_23_24_29_30_15_16_17_18_19_20_21_22_26_27_28 rfl rfl (by decide) rfl rfl rfl rfl rfl (Nat.le_of_ble_eq_true rfl) ⟨by simp only [RM]; omega, by simp only [RM]; omega⟩ ⟨Nat.le_of_ble_eq_true rfl, Nat.le_of_ble_eq_true rfl⟩ gX3_holdOrLeave_4.1 (Ktu15 fun jl12680 jb12681 gk02682 gk12683 gk22684 gk32685 gk42686 gk52687 gk62688 gk72689 gk82690 gk92691 gk102692 gk112693 gk122694 => ?_)
      intro H locs hr2678 hP hD hS
      try dsimp only at hr2678
      refine Kpdr (ws := [(h0, oX3 bb hd bo (nI jl12680) (nI jb12681)), (hd, cA G 13 hf), (kc0, oX1 km0), (km0, iA G 36 gk02682), (kc1, oX1 km1), (km1, iA G 36 gk12683), (kc2, oX1 km2), (km2, iA G 36 gk22684), (kc3, oX1 km3), (km3, iA G 36 gk32685), (kc4, oX1 km4), (km4, iA G 36 gk42686), (kc5, oX1 km5), (km5, iA G 36 gk52687), (kc6, oX1 km6), (km6, iA G 36 gk62688), (kc7, oX1 km7), (km7, iA G 36 gk72689), (kc8, oX1 km8), (km8, iA G 36 gk82690), (kc9, oX1 km9), (km9, iA G 36 gk92691), (kc10, oX1 km10), (km10, iA G 36 gk102692), (kc11, oX1 km11), (km11, iA G 36 gk112693), (kc12, oX1 km12), (km12, iA G 36 gk122694), (bb, oX0 bpersons bpapers bstamps bversions blines bsteps bsayings bfindings bwarnings bquestions td vd vl gp), (bstamps, oX8 24 3 bstampsc (nI kbstamps)), (bstampsc, iA G 72 fbstamps)]) hP hD (fun hP hD => ?_)
      have w2695 := hr2678
      refine lv_aload_n hx hb gX3_holdOrLeave_4.2.1 rfl (lv_at0 hl) ?_
      refine lv_iload_n hx hb gX3_holdOrLeave_4.2.2.1 rfl (lv_at1 hl) ?_
      refine lv_iconst (v := 1) hx hb gX3_holdOrLeave_4.2.2.2.1 (by decide) ?_
      refine lv_isub hx hb gX3_holdOrLeave_4.2.2.2.2.1 ?_
      refine lv_iload_n hx hb gX3_holdOrLeave_4.2.2.2.2.2.1 rfl (lv_at2 hl) ?_
      refine lv_iconst (v := 1) hx hb gX3_holdOrLeave_4.2.2.2.2.2.2.1 (by decide) ?_
      refine lv_iload_n hx hb gX3_holdOrLeave_4.2.2.2.2.2.2.2.1 rfl (lv_at1 hl) ?_
      refine lv_ishl hx hb gX3_holdOrLeave_4.2.2.2.2.2.2.2.2.1 ?_
      refine lv_ior hx hb gX3_holdOrLeave_4.2.2.2.2.2.2.2.2.2 ?_
      refine eqi (x1 := nI (jw ||| 2 ^ j)) (nI_orb hj12) ?_
      refine lv_iload_n hx hb gX3_holdOrLeave_5.1 rfl (lv_at3 hl) ?_
      refine lv_iconst (v := 1) hx hb gX3_holdOrLeave_5.2.1 (by decide) ?_
      refine lv_iadd hx hb gX3_holdOrLeave_5.2.2.1 ?_
      refine eqi (x1 := nI (jc + 1)) (nI_1 jc) ?_
      refine lv_iload hx hb gX3_holdOrLeave_5.2.2.2.1 (lv_at4 hl) ?_
      have hre8 : RES (TRE B9 j jw) (GDW fbstamps V9 gp.toInt kbstamps) jl jb jl12680 jb12681 := w2695.1
      have hmk7 : MKP [fk0, fk1, fk2, fk3, fk4, fk5, fk6, fk7, fk8, fk9, fk10, fk11, fk12] [gk02682, gk12683, gk22684, gk32685, gk42686, gk52687, gk62688, gk72689, gk82690, gk92691, gk102692, gk112693, gk122694] 7 := hmk8.tr (w2695.2.le (by omega))
      have hle9 : jl12680 ≤ 13 := Nat.le_trans hre8.le hjl
      have hkm9 : CLB (KHL fbstamps B9 gp.toInt kbstamps j (jw ||| 2 ^ j)) (MAT (MGT [gk02682, gk12683, gk22684, gk32685, gk42686, gk52687, gk62688, gk72689, gk82690, gk92691, gk102692, gk112693, gk122694] 7)) := by rw [hmk7 7 (Nat.le_refl _), KHL.leave hSV]; exact hKH
      have hct9 : jc + 1 = PCN (jw ||| 2 ^ j) 12 := by rw [PCN.or hwj, if_pos hj12, hCT]
      refine vV (wr := []) hC hK hl hP hD hS hA (ihS j (by omega) V9 B9 h0 (jw ||| 2 ^ j) (jc + 1) 7 bb hd bo jl12680 jb12681 hf kc0 km0 gk02682 kc1 km1 gk12683 kc2 km2 gk22684 kc3 km3 gk32685 kc4 km4 gk42686 kc5 km5 gk52687 kc6 km6 gk62688 kc7 km7 gk72689 kc8 km8 gk82690 kc9 km9 gk92691 kc10 km10 gk102692 kc11 km11 gk112693 kc12 km12 gk122694 bpersons bpapers bstamps bversions blines bsteps bsayings bfindings bwarnings bquestions td vd vl gp bstampsc kbstamps fbstamps (by omega) (by omega) hh0 hh1 hh2 hh3 hh4 hh5 hh6 hh7 hh8 hh9 hh10 hh11 hh12 hSV hgp hBV hVB hBB (hWS.or hj12 hbj) hct9 hkm9 hle9) si_X3_55 [0, 1, 2, 3, 4, 5, 6, 7, 8, 9, 10, 11, 12, 13, 14, 15, 16, 17, 18, 19, 20, 21, 22, 23, 24, 25, 26, 27, 28, 29, 30] [] sm_0_1_2_3_4_5_6_7_8_9_10_11_12_13_14_15_16_17_18_19_20_21_22_23_24_25_26_27_28_29_30 fm_0_1_2_3_4_5_6_7_8_9_10_11_12_13_14_15_16_17_18_19_20_21_22_23_24_25_26_27_28_29_30 nd_0_1_2_3_4_5_6_7_8_9_10_11_12_13_14_15_16_17_18_19_20_21_22_23_24_25_26_27_28_29_30 rfl rfl (by decide) rfl rfl rfl rfl rfl (Nat.le_of_ble_eq_true rfl) ⟨by simp only [RM]; omega, by simp only [RM]; omega⟩ ⟨Nat.le_of_ble_eq_true rfl, Nat.le_of_ble_eq_true rfl⟩ gX3_holdOrLeave_5.2.2.2.2.1 (Ktu15 fun jl12698 jb12699 gk02700 gk12701 gk22702 gk32703 gk42704 gk52705 gk62706 gk72707 gk82708 gk92709 gk102710 gk112711 gk122712 => ?_)
      intro H locs hr2696 hP hD hS
      try dsimp only at hr2696
      refine Kpdr (ws := [(h0, oX3 bb hd bo (nI jl12698) (nI jb12699)), (hd, cA G 13 hf), (kc0, oX1 km0), (km0, iA G 36 gk02700), (kc1, oX1 km1), (km1, iA G 36 gk12701), (kc2, oX1 km2), (km2, iA G 36 gk22702), (kc3, oX1 km3), (km3, iA G 36 gk32703), (kc4, oX1 km4), (km4, iA G 36 gk42704), (kc5, oX1 km5), (km5, iA G 36 gk52705), (kc6, oX1 km6), (km6, iA G 36 gk62706), (kc7, oX1 km7), (km7, iA G 36 gk72707), (kc8, oX1 km8), (km8, iA G 36 gk82708), (kc9, oX1 km9), (km9, iA G 36 gk92709), (kc10, oX1 km10), (km10, iA G 36 gk102710), (kc11, oX1 km11), (km11, iA G 36 gk112711), (kc12, oX1 km12), (km12, iA G 36 gk122712), (bb, oX0 bpersons bpapers bstamps bversions blines bsteps bsayings bfindings bwarnings bquestions td vd vl gp), (bstamps, oX8 24 3 bstampsc (nI kbstamps)), (bstampsc, iA G 72 fbstamps)]) hP hD (fun hP hD => ?_)
      have w2713 := hr2696
      refine toQ hQ0 ?_
      exact RV hC hP hD hS [0, 1, 2, 3, 4, 5, 6, 7, 8, 9, 10, 11, 12, 13, 14, 15, 16, 17, 18, 19, 20, 21, 22, 23, 24, 25, 26, 27, 28, 29, 30] (jl12698, jb12699, gk02700, gk12701, gk22702, gk32703, gk42704, gk52705, gk62706, gk72707, gk82708, gk92709, gk102710, gk112711, gk122712) rfl rfl (by decide) (⟨RES.seq hre8 w2713.1 (fun W9 => TRE.two hwj hj12) (fun V8 W8 => TRE.lt hwj hj12), hmk7.tr w2713.2⟩) gX3_holdOrLeave_5.2.2.2.2.2
    · refine lv_if_eq (tgt := 67) hx hb gX3_holdOrLeave_3.1 (by decide) (fun _ => ?_) (fun c9 => absurd (by decide) c9)
      refine lv_aload_n hx hb gX3_holdOrLeave_4.2.1 rfl (lv_at0 hl) ?_
      refine lv_iload_n hx hb gX3_holdOrLeave_4.2.2.1 rfl (lv_at1 hl) ?_
      refine lv_iconst (v := 1) hx hb gX3_holdOrLeave_4.2.2.2.1 (by decide) ?_
      refine lv_isub hx hb gX3_holdOrLeave_4.2.2.2.2.1 ?_
      refine lv_iload_n hx hb gX3_holdOrLeave_4.2.2.2.2.2.1 rfl (lv_at2 hl) ?_
      refine lv_iconst (v := 1) hx hb gX3_holdOrLeave_4.2.2.2.2.2.2.1 (by decide) ?_
      refine lv_iload_n hx hb gX3_holdOrLeave_4.2.2.2.2.2.2.2.1 rfl (lv_at1 hl) ?_
      refine lv_ishl hx hb gX3_holdOrLeave_4.2.2.2.2.2.2.2.2.1 ?_
      refine lv_ior hx hb gX3_holdOrLeave_4.2.2.2.2.2.2.2.2.2 ?_
      refine eqi (x1 := nI (jw ||| 2 ^ j)) (nI_orb hj12) ?_
      refine lv_iload_n hx hb gX3_holdOrLeave_5.1 rfl (lv_at3 hl) ?_
      refine lv_iconst (v := 1) hx hb gX3_holdOrLeave_5.2.1 (by decide) ?_
      refine lv_iadd hx hb gX3_holdOrLeave_5.2.2.1 ?_
      refine eqi (x1 := nI (jc + 1)) (nI_1 jc) ?_
      refine lv_iload hx hb gX3_holdOrLeave_5.2.2.2.1 (lv_at4 hl) ?_
      have hno9 : NOS (KHL fbstamps B9 gp.toInt kbstamps j jw) := by have h9 := a2677; rw [KHL.hold hSV hbj hwj] at h9; exact h9
      have hre8 : RES (TRE B9 j jw) (GDW fbstamps V9 gp.toInt kbstamps) jl jb jl jb := RES.none (fun W9 h8 h9 => absurd h9 (KHL.none hSV hBV hno9 h8))
      have hmk7 : MKP [fk0, fk1, fk2, fk3, fk4, fk5, fk6, fk7, fk8, fk9, fk10, fk11, fk12] [fk0, fk1, fk2, fk3, fk4, fk5, fk6, fk7, gx2676, fk9, fk10, fk11, fk12] 7 := fun j9 h9 => by rcases (show j9 = 0 ∨ j9 = 1 ∨ j9 = 2 ∨ j9 = 3 ∨ j9 = 4 ∨ j9 = 5 ∨ j9 = 6 ∨ j9 = 7 by omega) with rfl | rfl | rfl | rfl | rfl | rfl | rfl | rfl <;> rfl
      have hle9 : jl ≤ 13 := Nat.le_trans hre8.le hjl
      have hkm9 : CLB (KHL fbstamps B9 gp.toInt kbstamps j (jw ||| 2 ^ j)) (MAT (MGT [fk0, fk1, fk2, fk3, fk4, fk5, fk6, fk7, gx2676, fk9, fk10, fk11, fk12] 7)) := by rw [hmk7 7 (Nat.le_refl _), KHL.leave hSV]; exact hKH
      have hct9 : jc + 1 = PCN (jw ||| 2 ^ j) 12 := by rw [PCN.or hwj, if_pos hj12, hCT]
      refine vV (wr := []) hC hK hl hP hD hS hA (ihS j (by omega) V9 B9 h0 (jw ||| 2 ^ j) (jc + 1) 7 bb hd bo jl jb hf kc0 km0 fk0 kc1 km1 fk1 kc2 km2 fk2 kc3 km3 fk3 kc4 km4 fk4 kc5 km5 fk5 kc6 km6 fk6 kc7 km7 fk7 kc8 km8 gx2676 kc9 km9 fk9 kc10 km10 fk10 kc11 km11 fk11 kc12 km12 fk12 bpersons bpapers bstamps bversions blines bsteps bsayings bfindings bwarnings bquestions td vd vl gp bstampsc kbstamps fbstamps (by omega) (by omega) hh0 hh1 hh2 hh3 hh4 hh5 hh6 hh7 hh8 hh9 hh10 hh11 hh12 hSV hgp hBV hVB hBB (hWS.or hj12 hbj) hct9 hkm9 hle9) si_X3_55 [25, 0, 1, 2, 3, 4, 5, 6, 7, 8, 9, 10, 11, 12, 13, 14, 23, 24, 29, 30, 15, 16, 17, 18, 19, 20, 21, 22, 26, 27, 28] [] sm_25_0_1_2_3_4_5_6_7_8_9_10_11_12_13_14_23_24_29_30_15_16_17_18_19_20_21_22_26_27_28 fm_25_0_1_2_3_4_5_6_7_8_9_10_11_12_13_14_23_24_29_30_15_16_17_18_19_20_21_22_26_27_28 nd_25_0_1_2_3_4_5_6_7_8_9_10_11_12_13_14_23_24_29_30_15_16_17_18_19_20_21_22_26_27_28 rfl rfl (by decide) rfl rfl rfl rfl rfl (Nat.le_of_ble_eq_true rfl) ⟨by simp only [RM]; omega, by simp only [RM]; omega⟩ ⟨Nat.le_of_ble_eq_true rfl, Nat.le_of_ble_eq_true rfl⟩ gX3_holdOrLeave_5.2.2.2.2.1 (Ktu15 fun jl12716 jb12717 gk02718 gk12719 gk22720 gk32721 gk42722 gk52723 gk62724 gk72725 gk82726 gk92727 gk102728 gk112729 gk122730 => ?_)
      intro H locs hr2714 hP hD hS
      try dsimp only at hr2714
      refine Kpdr (ws := [(h0, oX3 bb hd bo (nI jl12716) (nI jb12717)), (hd, cA G 13 hf), (kc0, oX1 km0), (km0, iA G 36 gk02718), (kc1, oX1 km1), (km1, iA G 36 gk12719), (kc2, oX1 km2), (km2, iA G 36 gk22720), (kc3, oX1 km3), (km3, iA G 36 gk32721), (kc4, oX1 km4), (km4, iA G 36 gk42722), (kc5, oX1 km5), (km5, iA G 36 gk52723), (kc6, oX1 km6), (km6, iA G 36 gk62724), (kc7, oX1 km7), (km7, iA G 36 gk72725), (kc8, oX1 km8), (km8, iA G 36 gk82726), (kc9, oX1 km9), (km9, iA G 36 gk92727), (kc10, oX1 km10), (km10, iA G 36 gk102728), (kc11, oX1 km11), (km11, iA G 36 gk112729), (kc12, oX1 km12), (km12, iA G 36 gk122730), (bb, oX0 bpersons bpapers bstamps bversions blines bsteps bsayings bfindings bwarnings bquestions td vd vl gp), (bstamps, oX8 24 3 bstampsc (nI kbstamps)), (bstampsc, iA G 72 fbstamps)]) hP hD (fun hP hD => ?_)
      have w2731 := hr2714
      refine toQ hQ0 ?_
      exact RV hC hP hD hS [0, 1, 2, 3, 4, 5, 6, 7, 8, 9, 10, 11, 12, 13, 14, 15, 16, 17, 18, 19, 20, 21, 22, 23, 24, 25, 26, 27, 28, 29, 30] (jl12716, jb12717, gk02718, gk12719, gk22720, gk32721, gk42722, gk52723, gk62724, gk72725, gk82726, gk92727, gk102728, gk112729, gk122730) rfl rfl (by decide) (⟨RES.seq hre8 w2731.1 (fun W9 => TRE.two hwj hj12) (fun V8 W8 => TRE.lt hwj hj12), hmk7.tr w2731.2⟩) gX3_holdOrLeave_5.2.2.2.2.2
  · have hl : lv_has ls 5 [(0, .ref h0), (1, .int (nI j)), (2, .int (nI jw)), (3, .int (nI jc)), (4, .int 8)] := hl
    refine lv_iload hx hb gX3_holdOrLeave_0.1 (lv_at4 hl) ?_
    refine lv_if_lt (tgt := 17) hx hb gX3_holdOrLeave_0.2.1 (by decide) (fun c9 => absurd c9 (by decide)) (fun _ => ?_)
    refine lv_iload hx hb gX3_holdOrLeave_0.2.2.1 (lv_at4 hl) ?_
    refine lv_iconst (v := 1) hx hb gX3_holdOrLeave_0.2.2.2.1 (by decide) ?_
    refine lv_iadd hx hb gX3_holdOrLeave_0.2.2.2.2.1 ?_
    refine eqi (x1 := 9) (by decide) ?_
    refine lv_aload_n hx hb gX3_holdOrLeave_0.2.2.2.2.2.1 rfl (lv_at0 hl) ?_
    refine gf_X3_11 hC rfl hK hP 0 rfl rfl gX3_holdOrLeave_0.2.2.2.2.2.2.1 ?_
    refine va_alen (v := 13) hx hb hK.1 hP 1 1 rfl rfl (show Int32.ofNat 13 = 13 by decide) gX3_holdOrLeave_0.2.2.2.2.2.2.2.1 ?_
    refine lv_icmp_lt (tgt := 18) hx hb gX3_holdOrLeave_0.2.2.2.2.2.2.2.2.1 (by decide) (fun _ => ?_) (fun c9 => absurd (by decide) c9)
    refine lv_aload_n hx hb gX3_holdOrLeave_1.1 rfl (lv_at0 hl) ?_
    refine gf_X3_11 hC rfl hK hP 0 rfl rfl gX3_holdOrLeave_1.2.1 ?_
    refine lv_iload hx hb gX3_holdOrLeave_1.2.2.1 (lv_at4 hl) ?_
    refine lv_iconst (v := 1) hx hb gX3_holdOrLeave_1.2.2.2.1 (by decide) ?_
    refine lv_iadd hx hb gX3_holdOrLeave_1.2.2.2.2.1 ?_
    refine eqi (x1 := 9) (by decide) ?_
    refine aldC hC hK hP 1 rfl (vin (by decide +kernel)) (k := 9) (by decide +kernel) (v := kc9) (hh9) gX3_holdOrLeave_1.2.2.2.2.2.1 ?_
    refine lv_aload_n hx hb gX3_holdOrLeave_1.2.2.2.2.2.2.1 rfl (lv_at0 hl) ?_
    refine gf_X3_11 hC rfl hK hP 0 rfl rfl gX3_holdOrLeave_1.2.2.2.2.2.2.2.1 ?_
    refine lv_iload hx hb gX3_holdOrLeave_1.2.2.2.2.2.2.2.2.1 (lv_at4 hl) ?_
    refine aldC hC hK hP 1 rfl (vin (by decide +kernel)) (k := 8) (by decide +kernel) (v := kc8) (hh8) gX3_holdOrLeave_1.2.2.2.2.2.2.2.2.2 ?_
    refine vV (wr := [(h0, oX3 bb hd bo (nI jl) (nI jb)), (hd, cA G 13 hf), (kc0, oX1 km0), (km0, iA G 36 fk0), (kc1, oX1 km1), (km1, iA G 36 fk1), (kc2, oX1 km2), (km2, iA G 36 fk2), (kc3, oX1 km3), (km3, iA G 36 fk3), (kc4, oX1 km4), (km4, iA G 36 fk4), (kc5, oX1 km5), (km5, iA G 36 fk5), (kc6, oX1 km6), (km6, iA G 36 fk6), (kc7, oX1 km7), (km7, iA G 36 fk7), (kc10, oX1 km10), (km10, iA G 36 fk10), (kc11, oX1 km11), (km11, iA G 36 fk11), (kc12, oX1 km12), (km12, iA G 36 fk12), (bb, oX0 bpersons bpapers bstamps bversions blines bsteps bsayings bfindings bwarnings bquestions td vd vl gp), (bstamps, oX8 24 3 bstampsc (nI kbstamps)), (bstampsc, iA G 72 fbstamps)]) hC hK hl hP hD hS hA (c_Cl_copyX l G kc9 kc8 km9 fk9 km8 fk8) si_X3_62 [20, 21, 18, 19] [0, 1, 2, 3, 4, 5, 6, 7, 8, 9, 10, 11, 12, 13, 14, 15, 16, 17, 22, 23, 24, 25, 26, 27, 28, 29, 30] sm_20_21_18_19 fm_20_21_18_19 nd_20_21_18_19 sm_0_1_2_3_4_5_6_7_8_9_10_11_12_13_14_15_16_17_22_23_24_25_26_27_28_29_30 nd_0_1_2_3_4_5_6_7_8_9_10_11_12_13_14_15_16_17_22_23_24_25_26_27_28_29_30 dj_20_21_18_19__0_1_2_3_4_5_6_7_8_9_10_11_12_13_14_15_16_17_22_23_24_25_26_27_28_29_30 rfl rfl rfl rfl rfl (Nat.le_of_ble_eq_true rfl) ⟨by simp only [RM]; omega, by simp only [RM]; omega⟩ ⟨Nat.le_of_ble_eq_true rfl, Nat.le_of_ble_eq_true rfl⟩ gX3_holdOrLeave_2.1 (fun f12734 H locs hr2732 hP hD hS => ?_)
    try dsimp only at hr2732
    refine Kpdr (ws := [(h0, oX3 bb hd bo (nI jl) (nI jb)), (hd, cA G 13 hf), (kc0, oX1 km0), (km0, iA G 36 fk0), (kc1, oX1 km1), (km1, iA G 36 fk1), (kc2, oX1 km2), (km2, iA G 36 fk2), (kc3, oX1 km3), (km3, iA G 36 fk3), (kc4, oX1 km4), (km4, iA G 36 fk4), (kc5, oX1 km5), (km5, iA G 36 fk5), (kc6, oX1 km6), (km6, iA G 36 fk6), (kc7, oX1 km7), (km7, iA G 36 fk7), (kc10, oX1 km10), (km10, iA G 36 fk10), (kc11, oX1 km11), (km11, iA G 36 fk11), (kc12, oX1 km12), (km12, iA G 36 fk12), (bb, oX0 bpersons bpapers bstamps bversions blines bsteps bsayings bfindings bwarnings bquestions td vd vl gp), (bstamps, oX8 24 3 bstampsc (nI kbstamps)), (bstampsc, iA G 72 fbstamps), (kc9, oX1 km9), (km9, iA G 36 f12734), (kc8, oX1 km8), (km8, iA G 36 fk8)]) hP hD (fun hP hD => ?_)
    have w2735 := hr2732
    refine lv_aload_n hx hb gX3_holdOrLeave_2.2.1 rfl (lv_at0 hl) ?_
    refine lv_iload_n hx hb gX3_holdOrLeave_2.2.2.1 rfl (lv_at1 hl) ?_
    refine lv_aload_n hx hb gX3_holdOrLeave_2.2.2.2.1 rfl (lv_at0 hl) ?_
    refine gf_X3_11 hC rfl hK hP 0 rfl rfl gX3_holdOrLeave_2.2.2.2.2.1 ?_
    refine lv_iload hx hb gX3_holdOrLeave_2.2.2.2.2.2.1 (lv_at4 hl) ?_
    refine lv_iconst (v := 1) hx hb gX3_holdOrLeave_2.2.2.2.2.2.2.1 (by decide) ?_
    refine lv_iadd hx hb gX3_holdOrLeave_2.2.2.2.2.2.2.2.1 ?_
    refine eqi (x1 := 9) (by decide) ?_
    refine aldC hC hK hP 1 rfl (vin (by decide +kernel)) (k := 9) (by decide +kernel) (v := kc9) (hh9) gX3_holdOrLeave_2.2.2.2.2.2.2.2.2.1 ?_
    have hcq9 : CLB (KHL fbstamps B9 gp.toInt kbstamps (j + 1) jw) (MAT f12734) := CLB.cg (f := fk8) hKH w2735
    refine iV (wr := [(hd, cA G 13 hf), (kc0, oX1 km0), (km0, iA G 36 fk0), (kc1, oX1 km1), (km1, iA G 36 fk1), (kc2, oX1 km2), (km2, iA G 36 fk2), (kc3, oX1 km3), (km3, iA G 36 fk3), (kc4, oX1 km4), (km4, iA G 36 fk4), (kc5, oX1 km5), (km5, iA G 36 fk5), (kc6, oX1 km6), (km6, iA G 36 fk6), (kc7, oX1 km7), (km7, iA G 36 fk7), (kc10, oX1 km10), (km10, iA G 36 fk10), (kc11, oX1 km11), (km11, iA G 36 fk11), (kc12, oX1 km12), (km12, iA G 36 fk12), (kc8, oX1 km8), (km8, iA G 36 fk8)]) hC hK hl hP hD hS hA (c_isRightX l G (KHL fbstamps B9 gp.toInt kbstamps (j + 1) jw) h0 j kc9 bb hd bo (nI jl) (nI jb) bpersons bpapers bstamps bversions blines bsteps bsayings bfindings bwarnings bquestions td vd vl gp bstampsc kbstamps fbstamps km9 f12734 (hkbstamps) (hcq9) (hSV) (hgp) (by omega)) si_X3_66 [0, 24, 25, 26, 27, 28] [1, 2, 3, 4, 5, 6, 7, 8, 9, 10, 11, 12, 13, 14, 15, 16, 17, 18, 19, 20, 21, 22, 23, 29, 30] sm_0_24_25_26_27_28 fm_0_24_25_26_27_28 nd_0_24_25_26_27_28 sm_1_2_3_4_5_6_7_8_9_10_11_12_13_14_15_16_17_18_19_20_21_22_23_29_30 nd_1_2_3_4_5_6_7_8_9_10_11_12_13_14_15_16_17_18_19_20_21_22_23_29_30 dj_0_24_25_26_27_28__1_2_3_4_5_6_7_8_9_10_11_12_13_14_15_16_17_18_19_20_21_22_23_29_30 rfl rfl rfl rfl rfl (Nat.le_of_ble_eq_true rfl) ⟨by simp only [RM]; omega, by simp only [RM]; omega⟩ ⟨Nat.le_of_ble_eq_true rfl, Nat.le_of_ble_eq_true rfl⟩ gX3_holdOrLeave_2.2.2.2.2.2.2.2.2.2 (fun r2736 gx2738 H locs hr2736 hP hD hS => ?_)
    try dsimp only at hr2736
    refine Kpdr (ws := [(hd, cA G 13 hf), (kc0, oX1 km0), (km0, iA G 36 fk0), (kc1, oX1 km1), (km1, iA G 36 fk1), (kc2, oX1 km2), (km2, iA G 36 fk2), (kc3, oX1 km3), (km3, iA G 36 fk3), (kc4, oX1 km4), (km4, iA G 36 fk4), (kc5, oX1 km5), (km5, iA G 36 fk5), (kc6, oX1 km6), (km6, iA G 36 fk6), (kc7, oX1 km7), (km7, iA G 36 fk7), (kc10, oX1 km10), (km10, iA G 36 fk10), (kc11, oX1 km11), (km11, iA G 36 fk11), (kc12, oX1 km12), (km12, iA G 36 fk12), (kc8, oX1 km8), (km8, iA G 36 fk8), (h0, oX3 bb hd bo (nI jl) (nI jb)), (bb, oX0 bpersons bpapers bstamps bversions blines bsteps bsayings bfindings bwarnings bquestions td vd vl gp), (bstamps, oX8 24 3 bstampsc (nI kbstamps)), (bstampsc, iA G 72 fbstamps), (kc9, oX1 km9), (km9, iA G 36 gx2738)]) hP hD (fun hP hD => ?_)
    rcases hr2736 with ⟨rfl, a2739⟩ | ⟨rfl, a2739⟩
    · refine lv_if_eq (tgt := 67) hx hb gX3_holdOrLeave_3.1 (by decide) (fun c9 => absurd c9 (by decide)) (fun _ => ?_)
      refine lv_aload_n hx hb gX3_holdOrLeave_3.2.1 rfl (lv_at0 hl) ?_
      refine lv_iload_n hx hb gX3_holdOrLeave_3.2.2.1 rfl (lv_at1 hl) ?_
      refine lv_iconst (v := 1) hx hb gX3_holdOrLeave_3.2.2.2.1 (by decide) ?_
      refine lv_isub hx hb gX3_holdOrLeave_3.2.2.2.2.1 ?_
      refine lv_iload_n hx hb gX3_holdOrLeave_3.2.2.2.2.2.1 rfl (lv_at2 hl) ?_
      refine lv_iload_n hx hb gX3_holdOrLeave_3.2.2.2.2.2.2.1 rfl (lv_at3 hl) ?_
      refine lv_iload hx hb gX3_holdOrLeave_3.2.2.2.2.2.2.2.1 (lv_at4 hl) ?_
      refine lv_iconst (v := 1) hx hb gX3_holdOrLeave_3.2.2.2.2.2.2.2.2.1 (by decide) ?_
      refine lv_iadd hx hb gX3_holdOrLeave_3.2.2.2.2.2.2.2.2.2 ?_
      refine eqi (x1 := 9) (by decide) ?_
      have hkn9 : CLB (KHL fbstamps B9 gp.toInt kbstamps j jw) (MAT (MGT [fk0, fk1, fk2, fk3, fk4, fk5, fk6, fk7, fk8, gx2738, fk10, fk11, fk12] 9)) := by have h9 := a2739; rw [KHL.hold hSV hbj hwj] at h9; exact h9
      have hmk8 : MKP [fk0, fk1, fk2, fk3, fk4, fk5, fk6, fk7, fk8, fk9, fk10, fk11, fk12] [fk0, fk1, fk2, fk3, fk4, fk5, fk6, fk7, fk8, gx2738, fk10, fk11, fk12] 8 := fun j9 h9 => by rcases (show j9 = 0 ∨ j9 = 1 ∨ j9 = 2 ∨ j9 = 3 ∨ j9 = 4 ∨ j9 = 5 ∨ j9 = 6 ∨ j9 = 7 ∨ j9 = 8 by omega) with rfl | rfl | rfl | rfl | rfl | rfl | rfl | rfl | rfl <;> rfl
      refine vV (wr := []) hC hK hl hP hD hS hA (ihS j (by omega) V9 B9 h0 jw jc 9 bb hd bo jl jb hf kc0 km0 fk0 kc1 km1 fk1 kc2 km2 fk2 kc3 km3 fk3 kc4 km4 fk4 kc5 km5 fk5 kc6 km6 fk6 kc7 km7 fk7 kc8 km8 fk8 kc9 km9 gx2738 kc10 km10 fk10 kc11 km11 fk11 kc12 km12 fk12 bpersons bpapers bstamps bversions blines bsteps bsayings bfindings bwarnings bquestions td vd vl gp bstampsc kbstamps fbstamps (by omega) (by omega) hh0 hh1 hh2 hh3 hh4 hh5 hh6 hh7 hh8 hh9 hh10 hh11 hh12 hSV hgp hBV hVB hBB hWS.dn hCT hkn9 hjl) si_X3_55 [25, 0, 1, 2, 3, 4, 5, 6, 7, 8, 9, 10, 11, 12, 13, 14, 15, 16, 23, 24, 29, 30, 17, 18, 19, 20, 21, 22, 26, 27, 28] [] sm_25_0_1_2_3_4_5_6_7_8_9_10_11_12_13_14_15_16_23_24_29_30_17_18_19_20_21_22_26_27_28 fm_25_0_1_2_3_4_5_6_7_8_9_10_11_12_13_14_15_16_23_24_29_30_17_18_19_20_21_22_26_27_28 nd_25_0_1_2_3_4_5_6_7_8_9_10_11_12_13_14_15_16_23_24_29_30_17_18_19_20_21_22_26_27_28 rfl rfl (by decide) rfl rfl rfl rfl rfl (Nat.le_of_ble_eq_true rfl) ⟨by simp only [RM]; omega, by simp only [RM]; omega⟩ ⟨Nat.le_of_ble_eq_true rfl, Nat.le_of_ble_eq_true rfl⟩ gX3_holdOrLeave_4.1 (Ktu15 fun jl12742 jb12743 gk02744 gk12745 gk22746 gk32747 gk42748 gk52749 gk62750 gk72751 gk82752 gk92753 gk102754 gk112755 gk122756 => ?_)
      intro H locs hr2740 hP hD hS
      try dsimp only at hr2740
      refine Kpdr (ws := [(h0, oX3 bb hd bo (nI jl12742) (nI jb12743)), (hd, cA G 13 hf), (kc0, oX1 km0), (km0, iA G 36 gk02744), (kc1, oX1 km1), (km1, iA G 36 gk12745), (kc2, oX1 km2), (km2, iA G 36 gk22746), (kc3, oX1 km3), (km3, iA G 36 gk32747), (kc4, oX1 km4), (km4, iA G 36 gk42748), (kc5, oX1 km5), (km5, iA G 36 gk52749), (kc6, oX1 km6), (km6, iA G 36 gk62750), (kc7, oX1 km7), (km7, iA G 36 gk72751), (kc8, oX1 km8), (km8, iA G 36 gk82752), (kc9, oX1 km9), (km9, iA G 36 gk92753), (kc10, oX1 km10), (km10, iA G 36 gk102754), (kc11, oX1 km11), (km11, iA G 36 gk112755), (kc12, oX1 km12), (km12, iA G 36 gk122756), (bb, oX0 bpersons bpapers bstamps bversions blines bsteps bsayings bfindings bwarnings bquestions td vd vl gp), (bstamps, oX8 24 3 bstampsc (nI kbstamps)), (bstampsc, iA G 72 fbstamps)]) hP hD (fun hP hD => ?_)
      have w2757 := hr2740
      refine lv_aload_n hx hb gX3_holdOrLeave_4.2.1 rfl (lv_at0 hl) ?_
      refine lv_iload_n hx hb gX3_holdOrLeave_4.2.2.1 rfl (lv_at1 hl) ?_
      refine lv_iconst (v := 1) hx hb gX3_holdOrLeave_4.2.2.2.1 (by decide) ?_
      refine lv_isub hx hb gX3_holdOrLeave_4.2.2.2.2.1 ?_
      refine lv_iload_n hx hb gX3_holdOrLeave_4.2.2.2.2.2.1 rfl (lv_at2 hl) ?_
      refine lv_iconst (v := 1) hx hb gX3_holdOrLeave_4.2.2.2.2.2.2.1 (by decide) ?_
      refine lv_iload_n hx hb gX3_holdOrLeave_4.2.2.2.2.2.2.2.1 rfl (lv_at1 hl) ?_
      refine lv_ishl hx hb gX3_holdOrLeave_4.2.2.2.2.2.2.2.2.1 ?_
      refine lv_ior hx hb gX3_holdOrLeave_4.2.2.2.2.2.2.2.2.2 ?_
      refine eqi (x1 := nI (jw ||| 2 ^ j)) (nI_orb hj12) ?_
      refine lv_iload_n hx hb gX3_holdOrLeave_5.1 rfl (lv_at3 hl) ?_
      refine lv_iconst (v := 1) hx hb gX3_holdOrLeave_5.2.1 (by decide) ?_
      refine lv_iadd hx hb gX3_holdOrLeave_5.2.2.1 ?_
      refine eqi (x1 := nI (jc + 1)) (nI_1 jc) ?_
      refine lv_iload hx hb gX3_holdOrLeave_5.2.2.2.1 (lv_at4 hl) ?_
      have hre8 : RES (TRE B9 j jw) (GDW fbstamps V9 gp.toInt kbstamps) jl jb jl12742 jb12743 := w2757.1
      have hmk7 : MKP [fk0, fk1, fk2, fk3, fk4, fk5, fk6, fk7, fk8, fk9, fk10, fk11, fk12] [gk02744, gk12745, gk22746, gk32747, gk42748, gk52749, gk62750, gk72751, gk82752, gk92753, gk102754, gk112755, gk122756] 8 := hmk8.tr (w2757.2.le (by omega))
      have hle9 : jl12742 ≤ 13 := Nat.le_trans hre8.le hjl
      have hkm9 : CLB (KHL fbstamps B9 gp.toInt kbstamps j (jw ||| 2 ^ j)) (MAT (MGT [gk02744, gk12745, gk22746, gk32747, gk42748, gk52749, gk62750, gk72751, gk82752, gk92753, gk102754, gk112755, gk122756] 8)) := by rw [hmk7 8 (Nat.le_refl _), KHL.leave hSV]; exact hKH
      have hct9 : jc + 1 = PCN (jw ||| 2 ^ j) 12 := by rw [PCN.or hwj, if_pos hj12, hCT]
      refine vV (wr := []) hC hK hl hP hD hS hA (ihS j (by omega) V9 B9 h0 (jw ||| 2 ^ j) (jc + 1) 8 bb hd bo jl12742 jb12743 hf kc0 km0 gk02744 kc1 km1 gk12745 kc2 km2 gk22746 kc3 km3 gk32747 kc4 km4 gk42748 kc5 km5 gk52749 kc6 km6 gk62750 kc7 km7 gk72751 kc8 km8 gk82752 kc9 km9 gk92753 kc10 km10 gk102754 kc11 km11 gk112755 kc12 km12 gk122756 bpersons bpapers bstamps bversions blines bsteps bsayings bfindings bwarnings bquestions td vd vl gp bstampsc kbstamps fbstamps (by omega) (by omega) hh0 hh1 hh2 hh3 hh4 hh5 hh6 hh7 hh8 hh9 hh10 hh11 hh12 hSV hgp hBV hVB hBB (hWS.or hj12 hbj) hct9 hkm9 hle9) si_X3_55 [0, 1, 2, 3, 4, 5, 6, 7, 8, 9, 10, 11, 12, 13, 14, 15, 16, 17, 18, 19, 20, 21, 22, 23, 24, 25, 26, 27, 28, 29, 30] [] sm_0_1_2_3_4_5_6_7_8_9_10_11_12_13_14_15_16_17_18_19_20_21_22_23_24_25_26_27_28_29_30 fm_0_1_2_3_4_5_6_7_8_9_10_11_12_13_14_15_16_17_18_19_20_21_22_23_24_25_26_27_28_29_30 nd_0_1_2_3_4_5_6_7_8_9_10_11_12_13_14_15_16_17_18_19_20_21_22_23_24_25_26_27_28_29_30 rfl rfl (by decide) rfl rfl rfl rfl rfl (Nat.le_of_ble_eq_true rfl) ⟨by simp only [RM]; omega, by simp only [RM]; omega⟩ ⟨Nat.le_of_ble_eq_true rfl, Nat.le_of_ble_eq_true rfl⟩ gX3_holdOrLeave_5.2.2.2.2.1 (Ktu15 fun jl12760 jb12761 gk02762 gk12763 gk22764 gk32765 gk42766 gk52767 gk62768 gk72769 gk82770 gk92771 gk102772 gk112773 gk122774 => ?_)
      intro H locs hr2758 hP hD hS
      try dsimp only at hr2758
      refine Kpdr (ws := [(h0, oX3 bb hd bo (nI jl12760) (nI jb12761)), (hd, cA G 13 hf), (kc0, oX1 km0), (km0, iA G 36 gk02762), (kc1, oX1 km1), (km1, iA G 36 gk12763), (kc2, oX1 km2), (km2, iA G 36 gk22764), (kc3, oX1 km3), (km3, iA G 36 gk32765), (kc4, oX1 km4), (km4, iA G 36 gk42766), (kc5, oX1 km5), (km5, iA G 36 gk52767), (kc6, oX1 km6), (km6, iA G 36 gk62768), (kc7, oX1 km7), (km7, iA G 36 gk72769), (kc8, oX1 km8), (km8, iA G 36 gk82770), (kc9, oX1 km9), (km9, iA G 36 gk92771), (kc10, oX1 km10), (km10, iA G 36 gk102772), (kc11, oX1 km11), (km11, iA G 36 gk112773), (kc12, oX1 km12), (km12, iA G 36 gk122774), (bb, oX0 bpersons bpapers bstamps bversions blines bsteps bsayings bfindings bwarnings bquestions td vd vl gp), (bstamps, oX8 24 3 bstampsc (nI kbstamps)), (bstampsc, iA G 72 fbstamps)]) hP hD (fun hP hD => ?_)
      have w2775 := hr2758
      refine toQ hQ0 ?_
      exact RV hC hP hD hS [0, 1, 2, 3, 4, 5, 6, 7, 8, 9, 10, 11, 12, 13, 14, 15, 16, 17, 18, 19, 20, 21, 22, 23, 24, 25, 26, 27, 28, 29, 30] (jl12760, jb12761, gk02762, gk12763, gk22764, gk32765, gk42766, gk52767, gk62768, gk72769, gk82770, gk92771, gk102772, gk112773, gk122774) rfl rfl (by decide) (⟨RES.seq hre8 w2775.1 (fun W9 => TRE.two hwj hj12) (fun V8 W8 => TRE.lt hwj hj12), hmk7.tr w2775.2⟩) gX3_holdOrLeave_5.2.2.2.2.2
    · refine lv_if_eq (tgt := 67) hx hb gX3_holdOrLeave_3.1 (by decide) (fun _ => ?_) (fun c9 => absurd (by decide) c9)
      refine lv_aload_n hx hb gX3_holdOrLeave_4.2.1 rfl (lv_at0 hl) ?_
      refine lv_iload_n hx hb gX3_holdOrLeave_4.2.2.1 rfl (lv_at1 hl) ?_
      refine lv_iconst (v := 1) hx hb gX3_holdOrLeave_4.2.2.2.1 (by decide) ?_
      refine lv_isub hx hb gX3_holdOrLeave_4.2.2.2.2.1 ?_
      refine lv_iload_n hx hb gX3_holdOrLeave_4.2.2.2.2.2.1 rfl (lv_at2 hl) ?_
      refine lv_iconst (v := 1) hx hb gX3_holdOrLeave_4.2.2.2.2.2.2.1 (by decide) ?_
      refine lv_iload_n hx hb gX3_holdOrLeave_4.2.2.2.2.2.2.2.1 rfl (lv_at1 hl) ?_
      refine lv_ishl hx hb gX3_holdOrLeave_4.2.2.2.2.2.2.2.2.1 ?_
      refine lv_ior hx hb gX3_holdOrLeave_4.2.2.2.2.2.2.2.2.2 ?_
      refine eqi (x1 := nI (jw ||| 2 ^ j)) (nI_orb hj12) ?_
      refine lv_iload_n hx hb gX3_holdOrLeave_5.1 rfl (lv_at3 hl) ?_
      refine lv_iconst (v := 1) hx hb gX3_holdOrLeave_5.2.1 (by decide) ?_
      refine lv_iadd hx hb gX3_holdOrLeave_5.2.2.1 ?_
      refine eqi (x1 := nI (jc + 1)) (nI_1 jc) ?_
      refine lv_iload hx hb gX3_holdOrLeave_5.2.2.2.1 (lv_at4 hl) ?_
      have hno9 : NOS (KHL fbstamps B9 gp.toInt kbstamps j jw) := by have h9 := a2739; rw [KHL.hold hSV hbj hwj] at h9; exact h9
      have hre8 : RES (TRE B9 j jw) (GDW fbstamps V9 gp.toInt kbstamps) jl jb jl jb := RES.none (fun W9 h8 h9 => absurd h9 (KHL.none hSV hBV hno9 h8))
      have hmk7 : MKP [fk0, fk1, fk2, fk3, fk4, fk5, fk6, fk7, fk8, fk9, fk10, fk11, fk12] [fk0, fk1, fk2, fk3, fk4, fk5, fk6, fk7, fk8, gx2738, fk10, fk11, fk12] 8 := fun j9 h9 => by rcases (show j9 = 0 ∨ j9 = 1 ∨ j9 = 2 ∨ j9 = 3 ∨ j9 = 4 ∨ j9 = 5 ∨ j9 = 6 ∨ j9 = 7 ∨ j9 = 8 by omega) with rfl | rfl | rfl | rfl | rfl | rfl | rfl | rfl | rfl <;> rfl
      have hle9 : jl ≤ 13 := Nat.le_trans hre8.le hjl
      have hkm9 : CLB (KHL fbstamps B9 gp.toInt kbstamps j (jw ||| 2 ^ j)) (MAT (MGT [fk0, fk1, fk2, fk3, fk4, fk5, fk6, fk7, fk8, gx2738, fk10, fk11, fk12] 8)) := by rw [hmk7 8 (Nat.le_refl _), KHL.leave hSV]; exact hKH
      have hct9 : jc + 1 = PCN (jw ||| 2 ^ j) 12 := by rw [PCN.or hwj, if_pos hj12, hCT]
      refine vV (wr := []) hC hK hl hP hD hS hA (ihS j (by omega) V9 B9 h0 (jw ||| 2 ^ j) (jc + 1) 8 bb hd bo jl jb hf kc0 km0 fk0 kc1 km1 fk1 kc2 km2 fk2 kc3 km3 fk3 kc4 km4 fk4 kc5 km5 fk5 kc6 km6 fk6 kc7 km7 fk7 kc8 km8 fk8 kc9 km9 gx2738 kc10 km10 fk10 kc11 km11 fk11 kc12 km12 fk12 bpersons bpapers bstamps bversions blines bsteps bsayings bfindings bwarnings bquestions td vd vl gp bstampsc kbstamps fbstamps (by omega) (by omega) hh0 hh1 hh2 hh3 hh4 hh5 hh6 hh7 hh8 hh9 hh10 hh11 hh12 hSV hgp hBV hVB hBB (hWS.or hj12 hbj) hct9 hkm9 hle9) si_X3_55 [25, 0, 1, 2, 3, 4, 5, 6, 7, 8, 9, 10, 11, 12, 13, 14, 15, 16, 23, 24, 29, 30, 17, 18, 19, 20, 21, 22, 26, 27, 28] [] sm_25_0_1_2_3_4_5_6_7_8_9_10_11_12_13_14_15_16_23_24_29_30_17_18_19_20_21_22_26_27_28 fm_25_0_1_2_3_4_5_6_7_8_9_10_11_12_13_14_15_16_23_24_29_30_17_18_19_20_21_22_26_27_28 nd_25_0_1_2_3_4_5_6_7_8_9_10_11_12_13_14_15_16_23_24_29_30_17_18_19_20_21_22_26_27_28 rfl rfl (by decide) rfl rfl rfl rfl rfl (Nat.le_of_ble_eq_true rfl) ⟨by simp only [RM]; omega, by simp only [RM]; omega⟩ ⟨Nat.le_of_ble_eq_true rfl, Nat.le_of_ble_eq_true rfl⟩ gX3_holdOrLeave_5.2.2.2.2.1 (Ktu15 fun jl12778 jb12779 gk02780 gk12781 gk22782 gk32783 gk42784 gk52785 gk62786 gk72787 gk82788 gk92789 gk102790 gk112791 gk122792 => ?_)
      intro H locs hr2776 hP hD hS
      try dsimp only at hr2776
      refine Kpdr (ws := [(h0, oX3 bb hd bo (nI jl12778) (nI jb12779)), (hd, cA G 13 hf), (kc0, oX1 km0), (km0, iA G 36 gk02780), (kc1, oX1 km1), (km1, iA G 36 gk12781), (kc2, oX1 km2), (km2, iA G 36 gk22782), (kc3, oX1 km3), (km3, iA G 36 gk32783), (kc4, oX1 km4), (km4, iA G 36 gk42784), (kc5, oX1 km5), (km5, iA G 36 gk52785), (kc6, oX1 km6), (km6, iA G 36 gk62786), (kc7, oX1 km7), (km7, iA G 36 gk72787), (kc8, oX1 km8), (km8, iA G 36 gk82788), (kc9, oX1 km9), (km9, iA G 36 gk92789), (kc10, oX1 km10), (km10, iA G 36 gk102790), (kc11, oX1 km11), (km11, iA G 36 gk112791), (kc12, oX1 km12), (km12, iA G 36 gk122792), (bb, oX0 bpersons bpapers bstamps bversions blines bsteps bsayings bfindings bwarnings bquestions td vd vl gp), (bstamps, oX8 24 3 bstampsc (nI kbstamps)), (bstampsc, iA G 72 fbstamps)]) hP hD (fun hP hD => ?_)
      have w2793 := hr2776
      refine toQ hQ0 ?_
      exact RV hC hP hD hS [0, 1, 2, 3, 4, 5, 6, 7, 8, 9, 10, 11, 12, 13, 14, 15, 16, 17, 18, 19, 20, 21, 22, 23, 24, 25, 26, 27, 28, 29, 30] (jl12778, jb12779, gk02780, gk12781, gk22782, gk32783, gk42784, gk52785, gk62786, gk72787, gk82788, gk92789, gk102790, gk112791, gk122792) rfl rfl (by decide) (⟨RES.seq hre8 w2793.1 (fun W9 => TRE.two hwj hj12) (fun V8 W8 => TRE.lt hwj hj12), hmk7.tr w2793.2⟩) gX3_holdOrLeave_5.2.2.2.2.2
  · have hl : lv_has ls 5 [(0, .ref h0), (1, .int (nI j)), (2, .int (nI jw)), (3, .int (nI jc)), (4, .int 9)] := hl
    refine lv_iload hx hb gX3_holdOrLeave_0.1 (lv_at4 hl) ?_
    refine lv_if_lt (tgt := 17) hx hb gX3_holdOrLeave_0.2.1 (by decide) (fun c9 => absurd c9 (by decide)) (fun _ => ?_)
    refine lv_iload hx hb gX3_holdOrLeave_0.2.2.1 (lv_at4 hl) ?_
    refine lv_iconst (v := 1) hx hb gX3_holdOrLeave_0.2.2.2.1 (by decide) ?_
    refine lv_iadd hx hb gX3_holdOrLeave_0.2.2.2.2.1 ?_
    refine eqi (x1 := 10) (by decide) ?_
    refine lv_aload_n hx hb gX3_holdOrLeave_0.2.2.2.2.2.1 rfl (lv_at0 hl) ?_
    refine gf_X3_11 hC rfl hK hP 0 rfl rfl gX3_holdOrLeave_0.2.2.2.2.2.2.1 ?_
    refine va_alen (v := 13) hx hb hK.1 hP 1 1 rfl rfl (show Int32.ofNat 13 = 13 by decide) gX3_holdOrLeave_0.2.2.2.2.2.2.2.1 ?_
    refine lv_icmp_lt (tgt := 18) hx hb gX3_holdOrLeave_0.2.2.2.2.2.2.2.2.1 (by decide) (fun _ => ?_) (fun c9 => absurd (by decide) c9)
    refine lv_aload_n hx hb gX3_holdOrLeave_1.1 rfl (lv_at0 hl) ?_
    refine gf_X3_11 hC rfl hK hP 0 rfl rfl gX3_holdOrLeave_1.2.1 ?_
    refine lv_iload hx hb gX3_holdOrLeave_1.2.2.1 (lv_at4 hl) ?_
    refine lv_iconst (v := 1) hx hb gX3_holdOrLeave_1.2.2.2.1 (by decide) ?_
    refine lv_iadd hx hb gX3_holdOrLeave_1.2.2.2.2.1 ?_
    refine eqi (x1 := 10) (by decide) ?_
    refine aldC hC hK hP 1 rfl (vin (by decide +kernel)) (k := 10) (by decide +kernel) (v := kc10) (hh10) gX3_holdOrLeave_1.2.2.2.2.2.1 ?_
    refine lv_aload_n hx hb gX3_holdOrLeave_1.2.2.2.2.2.2.1 rfl (lv_at0 hl) ?_
    refine gf_X3_11 hC rfl hK hP 0 rfl rfl gX3_holdOrLeave_1.2.2.2.2.2.2.2.1 ?_
    refine lv_iload hx hb gX3_holdOrLeave_1.2.2.2.2.2.2.2.2.1 (lv_at4 hl) ?_
    refine aldC hC hK hP 1 rfl (vin (by decide +kernel)) (k := 9) (by decide +kernel) (v := kc9) (hh9) gX3_holdOrLeave_1.2.2.2.2.2.2.2.2.2 ?_
    refine vV (wr := [(h0, oX3 bb hd bo (nI jl) (nI jb)), (hd, cA G 13 hf), (kc0, oX1 km0), (km0, iA G 36 fk0), (kc1, oX1 km1), (km1, iA G 36 fk1), (kc2, oX1 km2), (km2, iA G 36 fk2), (kc3, oX1 km3), (km3, iA G 36 fk3), (kc4, oX1 km4), (km4, iA G 36 fk4), (kc5, oX1 km5), (km5, iA G 36 fk5), (kc6, oX1 km6), (km6, iA G 36 fk6), (kc7, oX1 km7), (km7, iA G 36 fk7), (kc8, oX1 km8), (km8, iA G 36 fk8), (kc11, oX1 km11), (km11, iA G 36 fk11), (kc12, oX1 km12), (km12, iA G 36 fk12), (bb, oX0 bpersons bpapers bstamps bversions blines bsteps bsayings bfindings bwarnings bquestions td vd vl gp), (bstamps, oX8 24 3 bstampsc (nI kbstamps)), (bstampsc, iA G 72 fbstamps)]) hC hK hl hP hD hS hA (c_Cl_copyX l G kc10 kc9 km10 fk10 km9 fk9) si_X3_62 [22, 23, 20, 21] [0, 1, 2, 3, 4, 5, 6, 7, 8, 9, 10, 11, 12, 13, 14, 15, 16, 17, 18, 19, 24, 25, 26, 27, 28, 29, 30] sm_22_23_20_21 fm_22_23_20_21 nd_22_23_20_21 sm_0_1_2_3_4_5_6_7_8_9_10_11_12_13_14_15_16_17_18_19_24_25_26_27_28_29_30 nd_0_1_2_3_4_5_6_7_8_9_10_11_12_13_14_15_16_17_18_19_24_25_26_27_28_29_30 dj_22_23_20_21__0_1_2_3_4_5_6_7_8_9_10_11_12_13_14_15_16_17_18_19_24_25_26_27_28_29_30 rfl rfl rfl rfl rfl (Nat.le_of_ble_eq_true rfl) ⟨by simp only [RM]; omega, by simp only [RM]; omega⟩ ⟨Nat.le_of_ble_eq_true rfl, Nat.le_of_ble_eq_true rfl⟩ gX3_holdOrLeave_2.1 (fun f12796 H locs hr2794 hP hD hS => ?_)
    try dsimp only at hr2794
    refine Kpdr (ws := [(h0, oX3 bb hd bo (nI jl) (nI jb)), (hd, cA G 13 hf), (kc0, oX1 km0), (km0, iA G 36 fk0), (kc1, oX1 km1), (km1, iA G 36 fk1), (kc2, oX1 km2), (km2, iA G 36 fk2), (kc3, oX1 km3), (km3, iA G 36 fk3), (kc4, oX1 km4), (km4, iA G 36 fk4), (kc5, oX1 km5), (km5, iA G 36 fk5), (kc6, oX1 km6), (km6, iA G 36 fk6), (kc7, oX1 km7), (km7, iA G 36 fk7), (kc8, oX1 km8), (km8, iA G 36 fk8), (kc11, oX1 km11), (km11, iA G 36 fk11), (kc12, oX1 km12), (km12, iA G 36 fk12), (bb, oX0 bpersons bpapers bstamps bversions blines bsteps bsayings bfindings bwarnings bquestions td vd vl gp), (bstamps, oX8 24 3 bstampsc (nI kbstamps)), (bstampsc, iA G 72 fbstamps), (kc10, oX1 km10), (km10, iA G 36 f12796), (kc9, oX1 km9), (km9, iA G 36 fk9)]) hP hD (fun hP hD => ?_)
    have w2797 := hr2794
    refine lv_aload_n hx hb gX3_holdOrLeave_2.2.1 rfl (lv_at0 hl) ?_
    refine lv_iload_n hx hb gX3_holdOrLeave_2.2.2.1 rfl (lv_at1 hl) ?_
    refine lv_aload_n hx hb gX3_holdOrLeave_2.2.2.2.1 rfl (lv_at0 hl) ?_
    refine gf_X3_11 hC rfl hK hP 0 rfl rfl gX3_holdOrLeave_2.2.2.2.2.1 ?_
    refine lv_iload hx hb gX3_holdOrLeave_2.2.2.2.2.2.1 (lv_at4 hl) ?_
    refine lv_iconst (v := 1) hx hb gX3_holdOrLeave_2.2.2.2.2.2.2.1 (by decide) ?_
    refine lv_iadd hx hb gX3_holdOrLeave_2.2.2.2.2.2.2.2.1 ?_
    refine eqi (x1 := 10) (by decide) ?_
    refine aldC hC hK hP 1 rfl (vin (by decide +kernel)) (k := 10) (by decide +kernel) (v := kc10) (hh10) gX3_holdOrLeave_2.2.2.2.2.2.2.2.2.1 ?_
    have hcq9 : CLB (KHL fbstamps B9 gp.toInt kbstamps (j + 1) jw) (MAT f12796) := CLB.cg (f := fk9) hKH w2797
    refine iV (wr := [(hd, cA G 13 hf), (kc0, oX1 km0), (km0, iA G 36 fk0), (kc1, oX1 km1), (km1, iA G 36 fk1), (kc2, oX1 km2), (km2, iA G 36 fk2), (kc3, oX1 km3), (km3, iA G 36 fk3), (kc4, oX1 km4), (km4, iA G 36 fk4), (kc5, oX1 km5), (km5, iA G 36 fk5), (kc6, oX1 km6), (km6, iA G 36 fk6), (kc7, oX1 km7), (km7, iA G 36 fk7), (kc8, oX1 km8), (km8, iA G 36 fk8), (kc11, oX1 km11), (km11, iA G 36 fk11), (kc12, oX1 km12), (km12, iA G 36 fk12), (kc9, oX1 km9), (km9, iA G 36 fk9)]) hC hK hl hP hD hS hA (c_isRightX l G (KHL fbstamps B9 gp.toInt kbstamps (j + 1) jw) h0 j kc10 bb hd bo (nI jl) (nI jb) bpersons bpapers bstamps bversions blines bsteps bsayings bfindings bwarnings bquestions td vd vl gp bstampsc kbstamps fbstamps km10 f12796 (hkbstamps) (hcq9) (hSV) (hgp) (by omega)) si_X3_66 [0, 24, 25, 26, 27, 28] [1, 2, 3, 4, 5, 6, 7, 8, 9, 10, 11, 12, 13, 14, 15, 16, 17, 18, 19, 20, 21, 22, 23, 29, 30] sm_0_24_25_26_27_28 fm_0_24_25_26_27_28 nd_0_24_25_26_27_28 sm_1_2_3_4_5_6_7_8_9_10_11_12_13_14_15_16_17_18_19_20_21_22_23_29_30 nd_1_2_3_4_5_6_7_8_9_10_11_12_13_14_15_16_17_18_19_20_21_22_23_29_30 dj_0_24_25_26_27_28__1_2_3_4_5_6_7_8_9_10_11_12_13_14_15_16_17_18_19_20_21_22_23_29_30 rfl rfl rfl rfl rfl (Nat.le_of_ble_eq_true rfl) ⟨by simp only [RM]; omega, by simp only [RM]; omega⟩ ⟨Nat.le_of_ble_eq_true rfl, Nat.le_of_ble_eq_true rfl⟩ gX3_holdOrLeave_2.2.2.2.2.2.2.2.2.2 (fun r2798 gx2800 H locs hr2798 hP hD hS => ?_)
    try dsimp only at hr2798
    refine Kpdr (ws := [(hd, cA G 13 hf), (kc0, oX1 km0), (km0, iA G 36 fk0), (kc1, oX1 km1), (km1, iA G 36 fk1), (kc2, oX1 km2), (km2, iA G 36 fk2), (kc3, oX1 km3), (km3, iA G 36 fk3), (kc4, oX1 km4), (km4, iA G 36 fk4), (kc5, oX1 km5), (km5, iA G 36 fk5), (kc6, oX1 km6), (km6, iA G 36 fk6), (kc7, oX1 km7), (km7, iA G 36 fk7), (kc8, oX1 km8), (km8, iA G 36 fk8), (kc11, oX1 km11), (km11, iA G 36 fk11), (kc12, oX1 km12), (km12, iA G 36 fk12), (kc9, oX1 km9), (km9, iA G 36 fk9), (h0, oX3 bb hd bo (nI jl) (nI jb)), (bb, oX0 bpersons bpapers bstamps bversions blines bsteps bsayings bfindings bwarnings bquestions td vd vl gp), (bstamps, oX8 24 3 bstampsc (nI kbstamps)), (bstampsc, iA G 72 fbstamps), (kc10, oX1 km10), (km10, iA G 36 gx2800)]) hP hD (fun hP hD => ?_)
    rcases hr2798 with ⟨rfl, a2801⟩ | ⟨rfl, a2801⟩
    · refine lv_if_eq (tgt := 67) hx hb gX3_holdOrLeave_3.1 (by decide) (fun c9 => absurd c9 (by decide)) (fun _ => ?_)
      refine lv_aload_n hx hb gX3_holdOrLeave_3.2.1 rfl (lv_at0 hl) ?_
      refine lv_iload_n hx hb gX3_holdOrLeave_3.2.2.1 rfl (lv_at1 hl) ?_
      refine lv_iconst (v := 1) hx hb gX3_holdOrLeave_3.2.2.2.1 (by decide) ?_
      refine lv_isub hx hb gX3_holdOrLeave_3.2.2.2.2.1 ?_
      refine lv_iload_n hx hb gX3_holdOrLeave_3.2.2.2.2.2.1 rfl (lv_at2 hl) ?_
      refine lv_iload_n hx hb gX3_holdOrLeave_3.2.2.2.2.2.2.1 rfl (lv_at3 hl) ?_
      refine lv_iload hx hb gX3_holdOrLeave_3.2.2.2.2.2.2.2.1 (lv_at4 hl) ?_
      refine lv_iconst (v := 1) hx hb gX3_holdOrLeave_3.2.2.2.2.2.2.2.2.1 (by decide) ?_
      refine lv_iadd hx hb gX3_holdOrLeave_3.2.2.2.2.2.2.2.2.2 ?_
      refine eqi (x1 := 10) (by decide) ?_
      have hkn9 : CLB (KHL fbstamps B9 gp.toInt kbstamps j jw) (MAT (MGT [fk0, fk1, fk2, fk3, fk4, fk5, fk6, fk7, fk8, fk9, gx2800, fk11, fk12] 10)) := by have h9 := a2801; rw [KHL.hold hSV hbj hwj] at h9; exact h9
      have hmk8 : MKP [fk0, fk1, fk2, fk3, fk4, fk5, fk6, fk7, fk8, fk9, fk10, fk11, fk12] [fk0, fk1, fk2, fk3, fk4, fk5, fk6, fk7, fk8, fk9, gx2800, fk11, fk12] 9 := fun j9 h9 => by rcases (show j9 = 0 ∨ j9 = 1 ∨ j9 = 2 ∨ j9 = 3 ∨ j9 = 4 ∨ j9 = 5 ∨ j9 = 6 ∨ j9 = 7 ∨ j9 = 8 ∨ j9 = 9 by omega) with rfl | rfl | rfl | rfl | rfl | rfl | rfl | rfl | rfl | rfl <;> rfl
      refine vV (wr := []) hC hK hl hP hD hS hA (ihS j (by omega) V9 B9 h0 jw jc 10 bb hd bo jl jb hf kc0 km0 fk0 kc1 km1 fk1 kc2 km2 fk2 kc3 km3 fk3 kc4 km4 fk4 kc5 km5 fk5 kc6 km6 fk6 kc7 km7 fk7 kc8 km8 fk8 kc9 km9 fk9 kc10 km10 gx2800 kc11 km11 fk11 kc12 km12 fk12 bpersons bpapers bstamps bversions blines bsteps bsayings bfindings bwarnings bquestions td vd vl gp bstampsc kbstamps fbstamps (by omega) (by omega) hh0 hh1 hh2 hh3 hh4 hh5 hh6 hh7 hh8 hh9 hh10 hh11 hh12 hSV hgp hBV hVB hBB hWS.dn hCT hkn9 hjl) si_X3_55 [25, 0, 1, 2, 3, 4, 5, 6, 7, 8, 9, 10, 11, 12, 13, 14, 15, 16, 17, 18, 23, 24, 29, 30, 19, 20, 21, 22, 26, 27, 28] [] sm_25_0_1_2_3_4_5_6_7_8_9_10_11_12_13_14_15_16_17_18_23_24_29_30_19_20_21_22_26_27_28 fm_25_0_1_2_3_4_5_6_7_8_9_10_11_12_13_14_15_16_17_18_23_24_29_30_19_20_21_22_26_27_28 nd_25_0_1_2_3_4_5_6_7_8_9_10_11_12_13_14_15_16_17_18_23_24_29_30_19_20_21_22_26_27_28 rfl rfl (by decide) rfl rfl rfl rfl rfl (Nat.le_of_ble_eq_true rfl) ⟨by simp only [RM]; omega, by simp only [RM]; omega⟩ ⟨Nat.le_of_ble_eq_true rfl, Nat.le_of_ble_eq_true rfl⟩ gX3_holdOrLeave_4.1 (Ktu15 fun jl12804 jb12805 gk02806 gk12807 gk22808 gk32809 gk42810 gk52811 gk62812 gk72813 gk82814 gk92815 gk102816 gk112817 gk122818 => ?_)
      intro H locs hr2802 hP hD hS
      try dsimp only at hr2802
      refine Kpdr (ws := [(h0, oX3 bb hd bo (nI jl12804) (nI jb12805)), (hd, cA G 13 hf), (kc0, oX1 km0), (km0, iA G 36 gk02806), (kc1, oX1 km1), (km1, iA G 36 gk12807), (kc2, oX1 km2), (km2, iA G 36 gk22808), (kc3, oX1 km3), (km3, iA G 36 gk32809), (kc4, oX1 km4), (km4, iA G 36 gk42810), (kc5, oX1 km5), (km5, iA G 36 gk52811), (kc6, oX1 km6), (km6, iA G 36 gk62812), (kc7, oX1 km7), (km7, iA G 36 gk72813), (kc8, oX1 km8), (km8, iA G 36 gk82814), (kc9, oX1 km9), (km9, iA G 36 gk92815), (kc10, oX1 km10), (km10, iA G 36 gk102816), (kc11, oX1 km11), (km11, iA G 36 gk112817), (kc12, oX1 km12), (km12, iA G 36 gk122818), (bb, oX0 bpersons bpapers bstamps bversions blines bsteps bsayings bfindings bwarnings bquestions td vd vl gp), (bstamps, oX8 24 3 bstampsc (nI kbstamps)), (bstampsc, iA G 72 fbstamps)]) hP hD (fun hP hD => ?_)
      have w2819 := hr2802
      refine lv_aload_n hx hb gX3_holdOrLeave_4.2.1 rfl (lv_at0 hl) ?_
      refine lv_iload_n hx hb gX3_holdOrLeave_4.2.2.1 rfl (lv_at1 hl) ?_
      refine lv_iconst (v := 1) hx hb gX3_holdOrLeave_4.2.2.2.1 (by decide) ?_
      refine lv_isub hx hb gX3_holdOrLeave_4.2.2.2.2.1 ?_
      refine lv_iload_n hx hb gX3_holdOrLeave_4.2.2.2.2.2.1 rfl (lv_at2 hl) ?_
      refine lv_iconst (v := 1) hx hb gX3_holdOrLeave_4.2.2.2.2.2.2.1 (by decide) ?_
      refine lv_iload_n hx hb gX3_holdOrLeave_4.2.2.2.2.2.2.2.1 rfl (lv_at1 hl) ?_
      refine lv_ishl hx hb gX3_holdOrLeave_4.2.2.2.2.2.2.2.2.1 ?_
      refine lv_ior hx hb gX3_holdOrLeave_4.2.2.2.2.2.2.2.2.2 ?_
      refine eqi (x1 := nI (jw ||| 2 ^ j)) (nI_orb hj12) ?_
      refine lv_iload_n hx hb gX3_holdOrLeave_5.1 rfl (lv_at3 hl) ?_
      refine lv_iconst (v := 1) hx hb gX3_holdOrLeave_5.2.1 (by decide) ?_
      refine lv_iadd hx hb gX3_holdOrLeave_5.2.2.1 ?_
      refine eqi (x1 := nI (jc + 1)) (nI_1 jc) ?_
      refine lv_iload hx hb gX3_holdOrLeave_5.2.2.2.1 (lv_at4 hl) ?_
      have hre8 : RES (TRE B9 j jw) (GDW fbstamps V9 gp.toInt kbstamps) jl jb jl12804 jb12805 := w2819.1
      have hmk7 : MKP [fk0, fk1, fk2, fk3, fk4, fk5, fk6, fk7, fk8, fk9, fk10, fk11, fk12] [gk02806, gk12807, gk22808, gk32809, gk42810, gk52811, gk62812, gk72813, gk82814, gk92815, gk102816, gk112817, gk122818] 9 := hmk8.tr (w2819.2.le (by omega))
      have hle9 : jl12804 ≤ 13 := Nat.le_trans hre8.le hjl
      have hkm9 : CLB (KHL fbstamps B9 gp.toInt kbstamps j (jw ||| 2 ^ j)) (MAT (MGT [gk02806, gk12807, gk22808, gk32809, gk42810, gk52811, gk62812, gk72813, gk82814, gk92815, gk102816, gk112817, gk122818] 9)) := by rw [hmk7 9 (Nat.le_refl _), KHL.leave hSV]; exact hKH
      have hct9 : jc + 1 = PCN (jw ||| 2 ^ j) 12 := by rw [PCN.or hwj, if_pos hj12, hCT]
      refine vV (wr := []) hC hK hl hP hD hS hA (ihS j (by omega) V9 B9 h0 (jw ||| 2 ^ j) (jc + 1) 9 bb hd bo jl12804 jb12805 hf kc0 km0 gk02806 kc1 km1 gk12807 kc2 km2 gk22808 kc3 km3 gk32809 kc4 km4 gk42810 kc5 km5 gk52811 kc6 km6 gk62812 kc7 km7 gk72813 kc8 km8 gk82814 kc9 km9 gk92815 kc10 km10 gk102816 kc11 km11 gk112817 kc12 km12 gk122818 bpersons bpapers bstamps bversions blines bsteps bsayings bfindings bwarnings bquestions td vd vl gp bstampsc kbstamps fbstamps (by omega) (by omega) hh0 hh1 hh2 hh3 hh4 hh5 hh6 hh7 hh8 hh9 hh10 hh11 hh12 hSV hgp hBV hVB hBB (hWS.or hj12 hbj) hct9 hkm9 hle9) si_X3_55 [0, 1, 2, 3, 4, 5, 6, 7, 8, 9, 10, 11, 12, 13, 14, 15, 16, 17, 18, 19, 20, 21, 22, 23, 24, 25, 26, 27, 28, 29, 30] [] sm_0_1_2_3_4_5_6_7_8_9_10_11_12_13_14_15_16_17_18_19_20_21_22_23_24_25_26_27_28_29_30 fm_0_1_2_3_4_5_6_7_8_9_10_11_12_13_14_15_16_17_18_19_20_21_22_23_24_25_26_27_28_29_30 nd_0_1_2_3_4_5_6_7_8_9_10_11_12_13_14_15_16_17_18_19_20_21_22_23_24_25_26_27_28_29_30 rfl rfl (by decide) rfl rfl rfl rfl rfl (Nat.le_of_ble_eq_true rfl) ⟨by simp only [RM]; omega, by simp only [RM]; omega⟩ ⟨Nat.le_of_ble_eq_true rfl, Nat.le_of_ble_eq_true rfl⟩ gX3_holdOrLeave_5.2.2.2.2.1 (Ktu15 fun jl12822 jb12823 gk02824 gk12825 gk22826 gk32827 gk42828 gk52829 gk62830 gk72831 gk82832 gk92833 gk102834 gk112835 gk122836 => ?_)
      intro H locs hr2820 hP hD hS
      try dsimp only at hr2820
      refine Kpdr (ws := [(h0, oX3 bb hd bo (nI jl12822) (nI jb12823)), (hd, cA G 13 hf), (kc0, oX1 km0), (km0, iA G 36 gk02824), (kc1, oX1 km1), (km1, iA G 36 gk12825), (kc2, oX1 km2), (km2, iA G 36 gk22826), (kc3, oX1 km3), (km3, iA G 36 gk32827), (kc4, oX1 km4), (km4, iA G 36 gk42828), (kc5, oX1 km5), (km5, iA G 36 gk52829), (kc6, oX1 km6), (km6, iA G 36 gk62830), (kc7, oX1 km7), (km7, iA G 36 gk72831), (kc8, oX1 km8), (km8, iA G 36 gk82832), (kc9, oX1 km9), (km9, iA G 36 gk92833), (kc10, oX1 km10), (km10, iA G 36 gk102834), (kc11, oX1 km11), (km11, iA G 36 gk112835), (kc12, oX1 km12), (km12, iA G 36 gk122836), (bb, oX0 bpersons bpapers bstamps bversions blines bsteps bsayings bfindings bwarnings bquestions td vd vl gp), (bstamps, oX8 24 3 bstampsc (nI kbstamps)), (bstampsc, iA G 72 fbstamps)]) hP hD (fun hP hD => ?_)
      have w2837 := hr2820
      refine toQ hQ0 ?_
      exact RV hC hP hD hS [0, 1, 2, 3, 4, 5, 6, 7, 8, 9, 10, 11, 12, 13, 14, 15, 16, 17, 18, 19, 20, 21, 22, 23, 24, 25, 26, 27, 28, 29, 30] (jl12822, jb12823, gk02824, gk12825, gk22826, gk32827, gk42828, gk52829, gk62830, gk72831, gk82832, gk92833, gk102834, gk112835, gk122836) rfl rfl (by decide) (⟨RES.seq hre8 w2837.1 (fun W9 => TRE.two hwj hj12) (fun V8 W8 => TRE.lt hwj hj12), hmk7.tr w2837.2⟩) gX3_holdOrLeave_5.2.2.2.2.2
    · refine lv_if_eq (tgt := 67) hx hb gX3_holdOrLeave_3.1 (by decide) (fun _ => ?_) (fun c9 => absurd (by decide) c9)
      refine lv_aload_n hx hb gX3_holdOrLeave_4.2.1 rfl (lv_at0 hl) ?_
      refine lv_iload_n hx hb gX3_holdOrLeave_4.2.2.1 rfl (lv_at1 hl) ?_
      refine lv_iconst (v := 1) hx hb gX3_holdOrLeave_4.2.2.2.1 (by decide) ?_
      refine lv_isub hx hb gX3_holdOrLeave_4.2.2.2.2.1 ?_
      refine lv_iload_n hx hb gX3_holdOrLeave_4.2.2.2.2.2.1 rfl (lv_at2 hl) ?_
      refine lv_iconst (v := 1) hx hb gX3_holdOrLeave_4.2.2.2.2.2.2.1 (by decide) ?_
      refine lv_iload_n hx hb gX3_holdOrLeave_4.2.2.2.2.2.2.2.1 rfl (lv_at1 hl) ?_
      refine lv_ishl hx hb gX3_holdOrLeave_4.2.2.2.2.2.2.2.2.1 ?_
      refine lv_ior hx hb gX3_holdOrLeave_4.2.2.2.2.2.2.2.2.2 ?_
      refine eqi (x1 := nI (jw ||| 2 ^ j)) (nI_orb hj12) ?_
      refine lv_iload_n hx hb gX3_holdOrLeave_5.1 rfl (lv_at3 hl) ?_
      refine lv_iconst (v := 1) hx hb gX3_holdOrLeave_5.2.1 (by decide) ?_
      refine lv_iadd hx hb gX3_holdOrLeave_5.2.2.1 ?_
      refine eqi (x1 := nI (jc + 1)) (nI_1 jc) ?_
      refine lv_iload hx hb gX3_holdOrLeave_5.2.2.2.1 (lv_at4 hl) ?_
      have hno9 : NOS (KHL fbstamps B9 gp.toInt kbstamps j jw) := by have h9 := a2801; rw [KHL.hold hSV hbj hwj] at h9; exact h9
      have hre8 : RES (TRE B9 j jw) (GDW fbstamps V9 gp.toInt kbstamps) jl jb jl jb := RES.none (fun W9 h8 h9 => absurd h9 (KHL.none hSV hBV hno9 h8))
      have hmk7 : MKP [fk0, fk1, fk2, fk3, fk4, fk5, fk6, fk7, fk8, fk9, fk10, fk11, fk12] [fk0, fk1, fk2, fk3, fk4, fk5, fk6, fk7, fk8, fk9, gx2800, fk11, fk12] 9 := fun j9 h9 => by rcases (show j9 = 0 ∨ j9 = 1 ∨ j9 = 2 ∨ j9 = 3 ∨ j9 = 4 ∨ j9 = 5 ∨ j9 = 6 ∨ j9 = 7 ∨ j9 = 8 ∨ j9 = 9 by omega) with rfl | rfl | rfl | rfl | rfl | rfl | rfl | rfl | rfl | rfl <;> rfl
      have hle9 : jl ≤ 13 := Nat.le_trans hre8.le hjl
      have hkm9 : CLB (KHL fbstamps B9 gp.toInt kbstamps j (jw ||| 2 ^ j)) (MAT (MGT [fk0, fk1, fk2, fk3, fk4, fk5, fk6, fk7, fk8, fk9, gx2800, fk11, fk12] 9)) := by rw [hmk7 9 (Nat.le_refl _), KHL.leave hSV]; exact hKH
      have hct9 : jc + 1 = PCN (jw ||| 2 ^ j) 12 := by rw [PCN.or hwj, if_pos hj12, hCT]
      refine vV (wr := []) hC hK hl hP hD hS hA (ihS j (by omega) V9 B9 h0 (jw ||| 2 ^ j) (jc + 1) 9 bb hd bo jl jb hf kc0 km0 fk0 kc1 km1 fk1 kc2 km2 fk2 kc3 km3 fk3 kc4 km4 fk4 kc5 km5 fk5 kc6 km6 fk6 kc7 km7 fk7 kc8 km8 fk8 kc9 km9 fk9 kc10 km10 gx2800 kc11 km11 fk11 kc12 km12 fk12 bpersons bpapers bstamps bversions blines bsteps bsayings bfindings bwarnings bquestions td vd vl gp bstampsc kbstamps fbstamps (by omega) (by omega) hh0 hh1 hh2 hh3 hh4 hh5 hh6 hh7 hh8 hh9 hh10 hh11 hh12 hSV hgp hBV hVB hBB (hWS.or hj12 hbj) hct9 hkm9 hle9) si_X3_55 [25, 0, 1, 2, 3, 4, 5, 6, 7, 8, 9, 10, 11, 12, 13, 14, 15, 16, 17, 18, 23, 24, 29, 30, 19, 20, 21, 22, 26, 27, 28] [] sm_25_0_1_2_3_4_5_6_7_8_9_10_11_12_13_14_15_16_17_18_23_24_29_30_19_20_21_22_26_27_28 fm_25_0_1_2_3_4_5_6_7_8_9_10_11_12_13_14_15_16_17_18_23_24_29_30_19_20_21_22_26_27_28 nd_25_0_1_2_3_4_5_6_7_8_9_10_11_12_13_14_15_16_17_18_23_24_29_30_19_20_21_22_26_27_28 rfl rfl (by decide) rfl rfl rfl rfl rfl (Nat.le_of_ble_eq_true rfl) ⟨by simp only [RM]; omega, by simp only [RM]; omega⟩ ⟨Nat.le_of_ble_eq_true rfl, Nat.le_of_ble_eq_true rfl⟩ gX3_holdOrLeave_5.2.2.2.2.1 (Ktu15 fun jl12840 jb12841 gk02842 gk12843 gk22844 gk32845 gk42846 gk52847 gk62848 gk72849 gk82850 gk92851 gk102852 gk112853 gk122854 => ?_)
      intro H locs hr2838 hP hD hS
      try dsimp only at hr2838
      refine Kpdr (ws := [(h0, oX3 bb hd bo (nI jl12840) (nI jb12841)), (hd, cA G 13 hf), (kc0, oX1 km0), (km0, iA G 36 gk02842), (kc1, oX1 km1), (km1, iA G 36 gk12843), (kc2, oX1 km2), (km2, iA G 36 gk22844), (kc3, oX1 km3), (km3, iA G 36 gk32845), (kc4, oX1 km4), (km4, iA G 36 gk42846), (kc5, oX1 km5), (km5, iA G 36 gk52847), (kc6, oX1 km6), (km6, iA G 36 gk62848), (kc7, oX1 km7), (km7, iA G 36 gk72849), (kc8, oX1 km8), (km8, iA G 36 gk82850), (kc9, oX1 km9), (km9, iA G 36 gk92851), (kc10, oX1 km10), (km10, iA G 36 gk102852), (kc11, oX1 km11), (km11, iA G 36 gk112853), (kc12, oX1 km12), (km12, iA G 36 gk122854), (bb, oX0 bpersons bpapers bstamps bversions blines bsteps bsayings bfindings bwarnings bquestions td vd vl gp), (bstamps, oX8 24 3 bstampsc (nI kbstamps)), (bstampsc, iA G 72 fbstamps)]) hP hD (fun hP hD => ?_)
      have w2855 := hr2838
      refine toQ hQ0 ?_
      exact RV hC hP hD hS [0, 1, 2, 3, 4, 5, 6, 7, 8, 9, 10, 11, 12, 13, 14, 15, 16, 17, 18, 19, 20, 21, 22, 23, 24, 25, 26, 27, 28, 29, 30] (jl12840, jb12841, gk02842, gk12843, gk22844, gk32845, gk42846, gk52847, gk62848, gk72849, gk82850, gk92851, gk102852, gk112853, gk122854) rfl rfl (by decide) (⟨RES.seq hre8 w2855.1 (fun W9 => TRE.two hwj hj12) (fun V8 W8 => TRE.lt hwj hj12), hmk7.tr w2855.2⟩) gX3_holdOrLeave_5.2.2.2.2.2
  · have hl : lv_has ls 5 [(0, .ref h0), (1, .int (nI j)), (2, .int (nI jw)), (3, .int (nI jc)), (4, .int 10)] := hl
    refine lv_iload hx hb gX3_holdOrLeave_0.1 (lv_at4 hl) ?_
    refine lv_if_lt (tgt := 17) hx hb gX3_holdOrLeave_0.2.1 (by decide) (fun c9 => absurd c9 (by decide)) (fun _ => ?_)
    refine lv_iload hx hb gX3_holdOrLeave_0.2.2.1 (lv_at4 hl) ?_
    refine lv_iconst (v := 1) hx hb gX3_holdOrLeave_0.2.2.2.1 (by decide) ?_
    refine lv_iadd hx hb gX3_holdOrLeave_0.2.2.2.2.1 ?_
    refine eqi (x1 := 11) (by decide) ?_
    refine lv_aload_n hx hb gX3_holdOrLeave_0.2.2.2.2.2.1 rfl (lv_at0 hl) ?_
    refine gf_X3_11 hC rfl hK hP 0 rfl rfl gX3_holdOrLeave_0.2.2.2.2.2.2.1 ?_
    refine va_alen (v := 13) hx hb hK.1 hP 1 1 rfl rfl (show Int32.ofNat 13 = 13 by decide) gX3_holdOrLeave_0.2.2.2.2.2.2.2.1 ?_
    refine lv_icmp_lt (tgt := 18) hx hb gX3_holdOrLeave_0.2.2.2.2.2.2.2.2.1 (by decide) (fun _ => ?_) (fun c9 => absurd (by decide) c9)
    refine lv_aload_n hx hb gX3_holdOrLeave_1.1 rfl (lv_at0 hl) ?_
    refine gf_X3_11 hC rfl hK hP 0 rfl rfl gX3_holdOrLeave_1.2.1 ?_
    refine lv_iload hx hb gX3_holdOrLeave_1.2.2.1 (lv_at4 hl) ?_
    refine lv_iconst (v := 1) hx hb gX3_holdOrLeave_1.2.2.2.1 (by decide) ?_
    refine lv_iadd hx hb gX3_holdOrLeave_1.2.2.2.2.1 ?_
    refine eqi (x1 := 11) (by decide) ?_
    refine aldC hC hK hP 1 rfl (vin (by decide +kernel)) (k := 11) (by decide +kernel) (v := kc11) (hh11) gX3_holdOrLeave_1.2.2.2.2.2.1 ?_
    refine lv_aload_n hx hb gX3_holdOrLeave_1.2.2.2.2.2.2.1 rfl (lv_at0 hl) ?_
    refine gf_X3_11 hC rfl hK hP 0 rfl rfl gX3_holdOrLeave_1.2.2.2.2.2.2.2.1 ?_
    refine lv_iload hx hb gX3_holdOrLeave_1.2.2.2.2.2.2.2.2.1 (lv_at4 hl) ?_
    refine aldC hC hK hP 1 rfl (vin (by decide +kernel)) (k := 10) (by decide +kernel) (v := kc10) (hh10) gX3_holdOrLeave_1.2.2.2.2.2.2.2.2.2 ?_
    refine vV (wr := [(h0, oX3 bb hd bo (nI jl) (nI jb)), (hd, cA G 13 hf), (kc0, oX1 km0), (km0, iA G 36 fk0), (kc1, oX1 km1), (km1, iA G 36 fk1), (kc2, oX1 km2), (km2, iA G 36 fk2), (kc3, oX1 km3), (km3, iA G 36 fk3), (kc4, oX1 km4), (km4, iA G 36 fk4), (kc5, oX1 km5), (km5, iA G 36 fk5), (kc6, oX1 km6), (km6, iA G 36 fk6), (kc7, oX1 km7), (km7, iA G 36 fk7), (kc8, oX1 km8), (km8, iA G 36 fk8), (kc9, oX1 km9), (km9, iA G 36 fk9), (kc12, oX1 km12), (km12, iA G 36 fk12), (bb, oX0 bpersons bpapers bstamps bversions blines bsteps bsayings bfindings bwarnings bquestions td vd vl gp), (bstamps, oX8 24 3 bstampsc (nI kbstamps)), (bstampsc, iA G 72 fbstamps)]) hC hK hl hP hD hS hA (c_Cl_copyX l G kc11 kc10 km11 fk11 km10 fk10) si_X3_62 [24, 25, 22, 23] [0, 1, 2, 3, 4, 5, 6, 7, 8, 9, 10, 11, 12, 13, 14, 15, 16, 17, 18, 19, 20, 21, 26, 27, 28, 29, 30] sm_24_25_22_23 fm_24_25_22_23 nd_24_25_22_23 sm_0_1_2_3_4_5_6_7_8_9_10_11_12_13_14_15_16_17_18_19_20_21_26_27_28_29_30 nd_0_1_2_3_4_5_6_7_8_9_10_11_12_13_14_15_16_17_18_19_20_21_26_27_28_29_30 dj_24_25_22_23__0_1_2_3_4_5_6_7_8_9_10_11_12_13_14_15_16_17_18_19_20_21_26_27_28_29_30 rfl rfl rfl rfl rfl (Nat.le_of_ble_eq_true rfl) ⟨by simp only [RM]; omega, by simp only [RM]; omega⟩ ⟨Nat.le_of_ble_eq_true rfl, Nat.le_of_ble_eq_true rfl⟩ gX3_holdOrLeave_2.1 (fun f12858 H locs hr2856 hP hD hS => ?_)
    try dsimp only at hr2856
    refine Kpdr (ws := [(h0, oX3 bb hd bo (nI jl) (nI jb)), (hd, cA G 13 hf), (kc0, oX1 km0), (km0, iA G 36 fk0), (kc1, oX1 km1), (km1, iA G 36 fk1), (kc2, oX1 km2), (km2, iA G 36 fk2), (kc3, oX1 km3), (km3, iA G 36 fk3), (kc4, oX1 km4), (km4, iA G 36 fk4), (kc5, oX1 km5), (km5, iA G 36 fk5), (kc6, oX1 km6), (km6, iA G 36 fk6), (kc7, oX1 km7), (km7, iA G 36 fk7), (kc8, oX1 km8), (km8, iA G 36 fk8), (kc9, oX1 km9), (km9, iA G 36 fk9), (kc12, oX1 km12), (km12, iA G 36 fk12), (bb, oX0 bpersons bpapers bstamps bversions blines bsteps bsayings bfindings bwarnings bquestions td vd vl gp), (bstamps, oX8 24 3 bstampsc (nI kbstamps)), (bstampsc, iA G 72 fbstamps), (kc11, oX1 km11), (km11, iA G 36 f12858), (kc10, oX1 km10), (km10, iA G 36 fk10)]) hP hD (fun hP hD => ?_)
    have w2859 := hr2856
    refine lv_aload_n hx hb gX3_holdOrLeave_2.2.1 rfl (lv_at0 hl) ?_
    refine lv_iload_n hx hb gX3_holdOrLeave_2.2.2.1 rfl (lv_at1 hl) ?_
    refine lv_aload_n hx hb gX3_holdOrLeave_2.2.2.2.1 rfl (lv_at0 hl) ?_
    refine gf_X3_11 hC rfl hK hP 0 rfl rfl gX3_holdOrLeave_2.2.2.2.2.1 ?_
    refine lv_iload hx hb gX3_holdOrLeave_2.2.2.2.2.2.1 (lv_at4 hl) ?_
    refine lv_iconst (v := 1) hx hb gX3_holdOrLeave_2.2.2.2.2.2.2.1 (by decide) ?_
    refine lv_iadd hx hb gX3_holdOrLeave_2.2.2.2.2.2.2.2.1 ?_
    refine eqi (x1 := 11) (by decide) ?_
    refine aldC hC hK hP 1 rfl (vin (by decide +kernel)) (k := 11) (by decide +kernel) (v := kc11) (hh11) gX3_holdOrLeave_2.2.2.2.2.2.2.2.2.1 ?_
    have hcq9 : CLB (KHL fbstamps B9 gp.toInt kbstamps (j + 1) jw) (MAT f12858) := CLB.cg (f := fk10) hKH w2859
    refine iV (wr := [(hd, cA G 13 hf), (kc0, oX1 km0), (km0, iA G 36 fk0), (kc1, oX1 km1), (km1, iA G 36 fk1), (kc2, oX1 km2), (km2, iA G 36 fk2), (kc3, oX1 km3), (km3, iA G 36 fk3), (kc4, oX1 km4), (km4, iA G 36 fk4), (kc5, oX1 km5), (km5, iA G 36 fk5), (kc6, oX1 km6), (km6, iA G 36 fk6), (kc7, oX1 km7), (km7, iA G 36 fk7), (kc8, oX1 km8), (km8, iA G 36 fk8), (kc9, oX1 km9), (km9, iA G 36 fk9), (kc12, oX1 km12), (km12, iA G 36 fk12), (kc10, oX1 km10), (km10, iA G 36 fk10)]) hC hK hl hP hD hS hA (c_isRightX l G (KHL fbstamps B9 gp.toInt kbstamps (j + 1) jw) h0 j kc11 bb hd bo (nI jl) (nI jb) bpersons bpapers bstamps bversions blines bsteps bsayings bfindings bwarnings bquestions td vd vl gp bstampsc kbstamps fbstamps km11 f12858 (hkbstamps) (hcq9) (hSV) (hgp) (by omega)) si_X3_66 [0, 24, 25, 26, 27, 28] [1, 2, 3, 4, 5, 6, 7, 8, 9, 10, 11, 12, 13, 14, 15, 16, 17, 18, 19, 20, 21, 22, 23, 29, 30] sm_0_24_25_26_27_28 fm_0_24_25_26_27_28 nd_0_24_25_26_27_28 sm_1_2_3_4_5_6_7_8_9_10_11_12_13_14_15_16_17_18_19_20_21_22_23_29_30 nd_1_2_3_4_5_6_7_8_9_10_11_12_13_14_15_16_17_18_19_20_21_22_23_29_30 dj_0_24_25_26_27_28__1_2_3_4_5_6_7_8_9_10_11_12_13_14_15_16_17_18_19_20_21_22_23_29_30 rfl rfl rfl rfl rfl (Nat.le_of_ble_eq_true rfl) ⟨by simp only [RM]; omega, by simp only [RM]; omega⟩ ⟨Nat.le_of_ble_eq_true rfl, Nat.le_of_ble_eq_true rfl⟩ gX3_holdOrLeave_2.2.2.2.2.2.2.2.2.2 (fun r2860 gx2862 H locs hr2860 hP hD hS => ?_)
    try dsimp only at hr2860
    refine Kpdr (ws := [(hd, cA G 13 hf), (kc0, oX1 km0), (km0, iA G 36 fk0), (kc1, oX1 km1), (km1, iA G 36 fk1), (kc2, oX1 km2), (km2, iA G 36 fk2), (kc3, oX1 km3), (km3, iA G 36 fk3), (kc4, oX1 km4), (km4, iA G 36 fk4), (kc5, oX1 km5), (km5, iA G 36 fk5), (kc6, oX1 km6), (km6, iA G 36 fk6), (kc7, oX1 km7), (km7, iA G 36 fk7), (kc8, oX1 km8), (km8, iA G 36 fk8), (kc9, oX1 km9), (km9, iA G 36 fk9), (kc12, oX1 km12), (km12, iA G 36 fk12), (kc10, oX1 km10), (km10, iA G 36 fk10), (h0, oX3 bb hd bo (nI jl) (nI jb)), (bb, oX0 bpersons bpapers bstamps bversions blines bsteps bsayings bfindings bwarnings bquestions td vd vl gp), (bstamps, oX8 24 3 bstampsc (nI kbstamps)), (bstampsc, iA G 72 fbstamps), (kc11, oX1 km11), (km11, iA G 36 gx2862)]) hP hD (fun hP hD => ?_)
    rcases hr2860 with ⟨rfl, a2863⟩ | ⟨rfl, a2863⟩
    · refine lv_if_eq (tgt := 67) hx hb gX3_holdOrLeave_3.1 (by decide) (fun c9 => absurd c9 (by decide)) (fun _ => ?_)
      refine lv_aload_n hx hb gX3_holdOrLeave_3.2.1 rfl (lv_at0 hl) ?_
      refine lv_iload_n hx hb gX3_holdOrLeave_3.2.2.1 rfl (lv_at1 hl) ?_
      refine lv_iconst (v := 1) hx hb gX3_holdOrLeave_3.2.2.2.1 (by decide) ?_
      refine lv_isub hx hb gX3_holdOrLeave_3.2.2.2.2.1 ?_
      refine lv_iload_n hx hb gX3_holdOrLeave_3.2.2.2.2.2.1 rfl (lv_at2 hl) ?_
      refine lv_iload_n hx hb gX3_holdOrLeave_3.2.2.2.2.2.2.1 rfl (lv_at3 hl) ?_
      refine lv_iload hx hb gX3_holdOrLeave_3.2.2.2.2.2.2.2.1 (lv_at4 hl) ?_
      refine lv_iconst (v := 1) hx hb gX3_holdOrLeave_3.2.2.2.2.2.2.2.2.1 (by decide) ?_
      refine lv_iadd hx hb gX3_holdOrLeave_3.2.2.2.2.2.2.2.2.2 ?_
      refine eqi (x1 := 11) (by decide) ?_
      have hkn9 : CLB (KHL fbstamps B9 gp.toInt kbstamps j jw) (MAT (MGT [fk0, fk1, fk2, fk3, fk4, fk5, fk6, fk7, fk8, fk9, fk10, gx2862, fk12] 11)) := by have h9 := a2863; rw [KHL.hold hSV hbj hwj] at h9; exact h9
      have hmk8 : MKP [fk0, fk1, fk2, fk3, fk4, fk5, fk6, fk7, fk8, fk9, fk10, fk11, fk12] [fk0, fk1, fk2, fk3, fk4, fk5, fk6, fk7, fk8, fk9, fk10, gx2862, fk12] 10 := fun j9 h9 => by rcases (show j9 = 0 ∨ j9 = 1 ∨ j9 = 2 ∨ j9 = 3 ∨ j9 = 4 ∨ j9 = 5 ∨ j9 = 6 ∨ j9 = 7 ∨ j9 = 8 ∨ j9 = 9 ∨ j9 = 10 by omega) with rfl | rfl | rfl | rfl | rfl | rfl | rfl | rfl | rfl | rfl | rfl <;> rfl
      refine vV (wr := []) hC hK hl hP hD hS hA (ihS j (by omega) V9 B9 h0 jw jc 11 bb hd bo jl jb hf kc0 km0 fk0 kc1 km1 fk1 kc2 km2 fk2 kc3 km3 fk3 kc4 km4 fk4 kc5 km5 fk5 kc6 km6 fk6 kc7 km7 fk7 kc8 km8 fk8 kc9 km9 fk9 kc10 km10 fk10 kc11 km11 gx2862 kc12 km12 fk12 bpersons bpapers bstamps bversions blines bsteps bsayings bfindings bwarnings bquestions td vd vl gp bstampsc kbstamps fbstamps (by omega) (by omega) hh0 hh1 hh2 hh3 hh4 hh5 hh6 hh7 hh8 hh9 hh10 hh11 hh12 hSV hgp hBV hVB hBB hWS.dn hCT hkn9 hjl) si_X3_55 [25, 0, 1, 2, 3, 4, 5, 6, 7, 8, 9, 10, 11, 12, 13, 14, 15, 16, 17, 18, 19, 20, 23, 24, 29, 30, 21, 22, 26, 27, 28] [] sm_25_0_1_2_3_4_5_6_7_8_9_10_11_12_13_14_15_16_17_18_19_20_23_24_29_30_21_22_26_27_28 fm_25_0_1_2_3_4_5_6_7_8_9_10_11_12_13_14_15_16_17_18_19_20_23_24_29_30_21_22_26_27_28 nd_25_0_1_2_3_4_5_6_7_8_9_10_11_12_13_14_15_16_17_18_19_20_23_24_29_30_21_22_26_27_28 rfl rfl (by decide) rfl rfl rfl rfl rfl (Nat.le_of_ble_eq_true rfl) ⟨by simp only [RM]; omega, by simp only [RM]; omega⟩ ⟨Nat.le_of_ble_eq_true rfl, Nat.le_of_ble_eq_true rfl⟩ gX3_holdOrLeave_4.1 (Ktu15 fun jl12866 jb12867 gk02868 gk12869 gk22870 gk32871 gk42872 gk52873 gk62874 gk72875 gk82876 gk92877 gk102878 gk112879 gk122880 => ?_)
      intro H locs hr2864 hP hD hS
      try dsimp only at hr2864
      refine Kpdr (ws := [(h0, oX3 bb hd bo (nI jl12866) (nI jb12867)), (hd, cA G 13 hf), (kc0, oX1 km0), (km0, iA G 36 gk02868), (kc1, oX1 km1), (km1, iA G 36 gk12869), (kc2, oX1 km2), (km2, iA G 36 gk22870), (kc3, oX1 km3), (km3, iA G 36 gk32871), (kc4, oX1 km4), (km4, iA G 36 gk42872), (kc5, oX1 km5), (km5, iA G 36 gk52873), (kc6, oX1 km6), (km6, iA G 36 gk62874), (kc7, oX1 km7), (km7, iA G 36 gk72875), (kc8, oX1 km8), (km8, iA G 36 gk82876), (kc9, oX1 km9), (km9, iA G 36 gk92877), (kc10, oX1 km10), (km10, iA G 36 gk102878), (kc11, oX1 km11), (km11, iA G 36 gk112879), (kc12, oX1 km12), (km12, iA G 36 gk122880), (bb, oX0 bpersons bpapers bstamps bversions blines bsteps bsayings bfindings bwarnings bquestions td vd vl gp), (bstamps, oX8 24 3 bstampsc (nI kbstamps)), (bstampsc, iA G 72 fbstamps)]) hP hD (fun hP hD => ?_)
      have w2881 := hr2864
      refine lv_aload_n hx hb gX3_holdOrLeave_4.2.1 rfl (lv_at0 hl) ?_
      refine lv_iload_n hx hb gX3_holdOrLeave_4.2.2.1 rfl (lv_at1 hl) ?_
      refine lv_iconst (v := 1) hx hb gX3_holdOrLeave_4.2.2.2.1 (by decide) ?_
      refine lv_isub hx hb gX3_holdOrLeave_4.2.2.2.2.1 ?_
      refine lv_iload_n hx hb gX3_holdOrLeave_4.2.2.2.2.2.1 rfl (lv_at2 hl) ?_
      refine lv_iconst (v := 1) hx hb gX3_holdOrLeave_4.2.2.2.2.2.2.1 (by decide) ?_
      refine lv_iload_n hx hb gX3_holdOrLeave_4.2.2.2.2.2.2.2.1 rfl (lv_at1 hl) ?_
      refine lv_ishl hx hb gX3_holdOrLeave_4.2.2.2.2.2.2.2.2.1 ?_
      refine lv_ior hx hb gX3_holdOrLeave_4.2.2.2.2.2.2.2.2.2 ?_
      refine eqi (x1 := nI (jw ||| 2 ^ j)) (nI_orb hj12) ?_
      refine lv_iload_n hx hb gX3_holdOrLeave_5.1 rfl (lv_at3 hl) ?_
      refine lv_iconst (v := 1) hx hb gX3_holdOrLeave_5.2.1 (by decide) ?_
      refine lv_iadd hx hb gX3_holdOrLeave_5.2.2.1 ?_
      refine eqi (x1 := nI (jc + 1)) (nI_1 jc) ?_
      refine lv_iload hx hb gX3_holdOrLeave_5.2.2.2.1 (lv_at4 hl) ?_
      have hre8 : RES (TRE B9 j jw) (GDW fbstamps V9 gp.toInt kbstamps) jl jb jl12866 jb12867 := w2881.1
      have hmk7 : MKP [fk0, fk1, fk2, fk3, fk4, fk5, fk6, fk7, fk8, fk9, fk10, fk11, fk12] [gk02868, gk12869, gk22870, gk32871, gk42872, gk52873, gk62874, gk72875, gk82876, gk92877, gk102878, gk112879, gk122880] 10 := hmk8.tr (w2881.2.le (by omega))
      have hle9 : jl12866 ≤ 13 := Nat.le_trans hre8.le hjl
      have hkm9 : CLB (KHL fbstamps B9 gp.toInt kbstamps j (jw ||| 2 ^ j)) (MAT (MGT [gk02868, gk12869, gk22870, gk32871, gk42872, gk52873, gk62874, gk72875, gk82876, gk92877, gk102878, gk112879, gk122880] 10)) := by rw [hmk7 10 (Nat.le_refl _), KHL.leave hSV]; exact hKH
      have hct9 : jc + 1 = PCN (jw ||| 2 ^ j) 12 := by rw [PCN.or hwj, if_pos hj12, hCT]
      refine vV (wr := []) hC hK hl hP hD hS hA (ihS j (by omega) V9 B9 h0 (jw ||| 2 ^ j) (jc + 1) 10 bb hd bo jl12866 jb12867 hf kc0 km0 gk02868 kc1 km1 gk12869 kc2 km2 gk22870 kc3 km3 gk32871 kc4 km4 gk42872 kc5 km5 gk52873 kc6 km6 gk62874 kc7 km7 gk72875 kc8 km8 gk82876 kc9 km9 gk92877 kc10 km10 gk102878 kc11 km11 gk112879 kc12 km12 gk122880 bpersons bpapers bstamps bversions blines bsteps bsayings bfindings bwarnings bquestions td vd vl gp bstampsc kbstamps fbstamps (by omega) (by omega) hh0 hh1 hh2 hh3 hh4 hh5 hh6 hh7 hh8 hh9 hh10 hh11 hh12 hSV hgp hBV hVB hBB (hWS.or hj12 hbj) hct9 hkm9 hle9) si_X3_55 [0, 1, 2, 3, 4, 5, 6, 7, 8, 9, 10, 11, 12, 13, 14, 15, 16, 17, 18, 19, 20, 21, 22, 23, 24, 25, 26, 27, 28, 29, 30] [] sm_0_1_2_3_4_5_6_7_8_9_10_11_12_13_14_15_16_17_18_19_20_21_22_23_24_25_26_27_28_29_30 fm_0_1_2_3_4_5_6_7_8_9_10_11_12_13_14_15_16_17_18_19_20_21_22_23_24_25_26_27_28_29_30 nd_0_1_2_3_4_5_6_7_8_9_10_11_12_13_14_15_16_17_18_19_20_21_22_23_24_25_26_27_28_29_30 rfl rfl (by decide) rfl rfl rfl rfl rfl (Nat.le_of_ble_eq_true rfl) ⟨by simp only [RM]; omega, by simp only [RM]; omega⟩ ⟨Nat.le_of_ble_eq_true rfl, Nat.le_of_ble_eq_true rfl⟩ gX3_holdOrLeave_5.2.2.2.2.1 (Ktu15 fun jl12884 jb12885 gk02886 gk12887 gk22888 gk32889 gk42890 gk52891 gk62892 gk72893 gk82894 gk92895 gk102896 gk112897 gk122898 => ?_)
      intro H locs hr2882 hP hD hS
      try dsimp only at hr2882
      refine Kpdr (ws := [(h0, oX3 bb hd bo (nI jl12884) (nI jb12885)), (hd, cA G 13 hf), (kc0, oX1 km0), (km0, iA G 36 gk02886), (kc1, oX1 km1), (km1, iA G 36 gk12887), (kc2, oX1 km2), (km2, iA G 36 gk22888), (kc3, oX1 km3), (km3, iA G 36 gk32889), (kc4, oX1 km4), (km4, iA G 36 gk42890), (kc5, oX1 km5), (km5, iA G 36 gk52891), (kc6, oX1 km6), (km6, iA G 36 gk62892), (kc7, oX1 km7), (km7, iA G 36 gk72893), (kc8, oX1 km8), (km8, iA G 36 gk82894), (kc9, oX1 km9), (km9, iA G 36 gk92895), (kc10, oX1 km10), (km10, iA G 36 gk102896), (kc11, oX1 km11), (km11, iA G 36 gk112897), (kc12, oX1 km12), (km12, iA G 36 gk122898), (bb, oX0 bpersons bpapers bstamps bversions blines bsteps bsayings bfindings bwarnings bquestions td vd vl gp), (bstamps, oX8 24 3 bstampsc (nI kbstamps)), (bstampsc, iA G 72 fbstamps)]) hP hD (fun hP hD => ?_)
      have w2899 := hr2882
      refine toQ hQ0 ?_
      exact RV hC hP hD hS [0, 1, 2, 3, 4, 5, 6, 7, 8, 9, 10, 11, 12, 13, 14, 15, 16, 17, 18, 19, 20, 21, 22, 23, 24, 25, 26, 27, 28, 29, 30] (jl12884, jb12885, gk02886, gk12887, gk22888, gk32889, gk42890, gk52891, gk62892, gk72893, gk82894, gk92895, gk102896, gk112897, gk122898) rfl rfl (by decide) (⟨RES.seq hre8 w2899.1 (fun W9 => TRE.two hwj hj12) (fun V8 W8 => TRE.lt hwj hj12), hmk7.tr w2899.2⟩) gX3_holdOrLeave_5.2.2.2.2.2
    · refine lv_if_eq (tgt := 67) hx hb gX3_holdOrLeave_3.1 (by decide) (fun _ => ?_) (fun c9 => absurd (by decide) c9)
      refine lv_aload_n hx hb gX3_holdOrLeave_4.2.1 rfl (lv_at0 hl) ?_
      refine lv_iload_n hx hb gX3_holdOrLeave_4.2.2.1 rfl (lv_at1 hl) ?_
      refine lv_iconst (v := 1) hx hb gX3_holdOrLeave_4.2.2.2.1 (by decide) ?_
      refine lv_isub hx hb gX3_holdOrLeave_4.2.2.2.2.1 ?_
      refine lv_iload_n hx hb gX3_holdOrLeave_4.2.2.2.2.2.1 rfl (lv_at2 hl) ?_
      refine lv_iconst (v := 1) hx hb gX3_holdOrLeave_4.2.2.2.2.2.2.1 (by decide) ?_
      refine lv_iload_n hx hb gX3_holdOrLeave_4.2.2.2.2.2.2.2.1 rfl (lv_at1 hl) ?_
      refine lv_ishl hx hb gX3_holdOrLeave_4.2.2.2.2.2.2.2.2.1 ?_
      refine lv_ior hx hb gX3_holdOrLeave_4.2.2.2.2.2.2.2.2.2 ?_
      refine eqi (x1 := nI (jw ||| 2 ^ j)) (nI_orb hj12) ?_
      refine lv_iload_n hx hb gX3_holdOrLeave_5.1 rfl (lv_at3 hl) ?_
      refine lv_iconst (v := 1) hx hb gX3_holdOrLeave_5.2.1 (by decide) ?_
      refine lv_iadd hx hb gX3_holdOrLeave_5.2.2.1 ?_
      refine eqi (x1 := nI (jc + 1)) (nI_1 jc) ?_
      refine lv_iload hx hb gX3_holdOrLeave_5.2.2.2.1 (lv_at4 hl) ?_
      have hno9 : NOS (KHL fbstamps B9 gp.toInt kbstamps j jw) := by have h9 := a2863; rw [KHL.hold hSV hbj hwj] at h9; exact h9
      have hre8 : RES (TRE B9 j jw) (GDW fbstamps V9 gp.toInt kbstamps) jl jb jl jb := RES.none (fun W9 h8 h9 => absurd h9 (KHL.none hSV hBV hno9 h8))
      have hmk7 : MKP [fk0, fk1, fk2, fk3, fk4, fk5, fk6, fk7, fk8, fk9, fk10, fk11, fk12] [fk0, fk1, fk2, fk3, fk4, fk5, fk6, fk7, fk8, fk9, fk10, gx2862, fk12] 10 := fun j9 h9 => by rcases (show j9 = 0 ∨ j9 = 1 ∨ j9 = 2 ∨ j9 = 3 ∨ j9 = 4 ∨ j9 = 5 ∨ j9 = 6 ∨ j9 = 7 ∨ j9 = 8 ∨ j9 = 9 ∨ j9 = 10 by omega) with rfl | rfl | rfl | rfl | rfl | rfl | rfl | rfl | rfl | rfl | rfl <;> rfl
      have hle9 : jl ≤ 13 := Nat.le_trans hre8.le hjl
      have hkm9 : CLB (KHL fbstamps B9 gp.toInt kbstamps j (jw ||| 2 ^ j)) (MAT (MGT [fk0, fk1, fk2, fk3, fk4, fk5, fk6, fk7, fk8, fk9, fk10, gx2862, fk12] 10)) := by rw [hmk7 10 (Nat.le_refl _), KHL.leave hSV]; exact hKH
      have hct9 : jc + 1 = PCN (jw ||| 2 ^ j) 12 := by rw [PCN.or hwj, if_pos hj12, hCT]
      refine vV (wr := []) hC hK hl hP hD hS hA (ihS j (by omega) V9 B9 h0 (jw ||| 2 ^ j) (jc + 1) 10 bb hd bo jl jb hf kc0 km0 fk0 kc1 km1 fk1 kc2 km2 fk2 kc3 km3 fk3 kc4 km4 fk4 kc5 km5 fk5 kc6 km6 fk6 kc7 km7 fk7 kc8 km8 fk8 kc9 km9 fk9 kc10 km10 fk10 kc11 km11 gx2862 kc12 km12 fk12 bpersons bpapers bstamps bversions blines bsteps bsayings bfindings bwarnings bquestions td vd vl gp bstampsc kbstamps fbstamps (by omega) (by omega) hh0 hh1 hh2 hh3 hh4 hh5 hh6 hh7 hh8 hh9 hh10 hh11 hh12 hSV hgp hBV hVB hBB (hWS.or hj12 hbj) hct9 hkm9 hle9) si_X3_55 [25, 0, 1, 2, 3, 4, 5, 6, 7, 8, 9, 10, 11, 12, 13, 14, 15, 16, 17, 18, 19, 20, 23, 24, 29, 30, 21, 22, 26, 27, 28] [] sm_25_0_1_2_3_4_5_6_7_8_9_10_11_12_13_14_15_16_17_18_19_20_23_24_29_30_21_22_26_27_28 fm_25_0_1_2_3_4_5_6_7_8_9_10_11_12_13_14_15_16_17_18_19_20_23_24_29_30_21_22_26_27_28 nd_25_0_1_2_3_4_5_6_7_8_9_10_11_12_13_14_15_16_17_18_19_20_23_24_29_30_21_22_26_27_28 rfl rfl (by decide) rfl rfl rfl rfl rfl (Nat.le_of_ble_eq_true rfl) ⟨by simp only [RM]; omega, by simp only [RM]; omega⟩ ⟨Nat.le_of_ble_eq_true rfl, Nat.le_of_ble_eq_true rfl⟩ gX3_holdOrLeave_5.2.2.2.2.1 (Ktu15 fun jl12902 jb12903 gk02904 gk12905 gk22906 gk32907 gk42908 gk52909 gk62910 gk72911 gk82912 gk92913 gk102914 gk112915 gk122916 => ?_)
      intro H locs hr2900 hP hD hS
      try dsimp only at hr2900
      refine Kpdr (ws := [(h0, oX3 bb hd bo (nI jl12902) (nI jb12903)), (hd, cA G 13 hf), (kc0, oX1 km0), (km0, iA G 36 gk02904), (kc1, oX1 km1), (km1, iA G 36 gk12905), (kc2, oX1 km2), (km2, iA G 36 gk22906), (kc3, oX1 km3), (km3, iA G 36 gk32907), (kc4, oX1 km4), (km4, iA G 36 gk42908), (kc5, oX1 km5), (km5, iA G 36 gk52909), (kc6, oX1 km6), (km6, iA G 36 gk62910), (kc7, oX1 km7), (km7, iA G 36 gk72911), (kc8, oX1 km8), (km8, iA G 36 gk82912), (kc9, oX1 km9), (km9, iA G 36 gk92913), (kc10, oX1 km10), (km10, iA G 36 gk102914), (kc11, oX1 km11), (km11, iA G 36 gk112915), (kc12, oX1 km12), (km12, iA G 36 gk122916), (bb, oX0 bpersons bpapers bstamps bversions blines bsteps bsayings bfindings bwarnings bquestions td vd vl gp), (bstamps, oX8 24 3 bstampsc (nI kbstamps)), (bstampsc, iA G 72 fbstamps)]) hP hD (fun hP hD => ?_)
      have w2917 := hr2900
      refine toQ hQ0 ?_
      exact RV hC hP hD hS [0, 1, 2, 3, 4, 5, 6, 7, 8, 9, 10, 11, 12, 13, 14, 15, 16, 17, 18, 19, 20, 21, 22, 23, 24, 25, 26, 27, 28, 29, 30] (jl12902, jb12903, gk02904, gk12905, gk22906, gk32907, gk42908, gk52909, gk62910, gk72911, gk82912, gk92913, gk102914, gk112915, gk122916) rfl rfl (by decide) (⟨RES.seq hre8 w2917.1 (fun W9 => TRE.two hwj hj12) (fun V8 W8 => TRE.lt hwj hj12), hmk7.tr w2917.2⟩) gX3_holdOrLeave_5.2.2.2.2.2
  · have hl : lv_has ls 5 [(0, .ref h0), (1, .int (nI j)), (2, .int (nI jw)), (3, .int (nI jc)), (4, .int 11)] := hl
    refine lv_iload hx hb gX3_holdOrLeave_0.1 (lv_at4 hl) ?_
    refine lv_if_lt (tgt := 17) hx hb gX3_holdOrLeave_0.2.1 (by decide) (fun c9 => absurd c9 (by decide)) (fun _ => ?_)
    refine lv_iload hx hb gX3_holdOrLeave_0.2.2.1 (lv_at4 hl) ?_
    refine lv_iconst (v := 1) hx hb gX3_holdOrLeave_0.2.2.2.1 (by decide) ?_
    refine lv_iadd hx hb gX3_holdOrLeave_0.2.2.2.2.1 ?_
    refine eqi (x1 := 12) (by decide) ?_
    refine lv_aload_n hx hb gX3_holdOrLeave_0.2.2.2.2.2.1 rfl (lv_at0 hl) ?_
    refine gf_X3_11 hC rfl hK hP 0 rfl rfl gX3_holdOrLeave_0.2.2.2.2.2.2.1 ?_
    refine va_alen (v := 13) hx hb hK.1 hP 1 1 rfl rfl (show Int32.ofNat 13 = 13 by decide) gX3_holdOrLeave_0.2.2.2.2.2.2.2.1 ?_
    refine lv_icmp_lt (tgt := 18) hx hb gX3_holdOrLeave_0.2.2.2.2.2.2.2.2.1 (by decide) (fun _ => ?_) (fun c9 => absurd (by decide) c9)
    refine lv_aload_n hx hb gX3_holdOrLeave_1.1 rfl (lv_at0 hl) ?_
    refine gf_X3_11 hC rfl hK hP 0 rfl rfl gX3_holdOrLeave_1.2.1 ?_
    refine lv_iload hx hb gX3_holdOrLeave_1.2.2.1 (lv_at4 hl) ?_
    refine lv_iconst (v := 1) hx hb gX3_holdOrLeave_1.2.2.2.1 (by decide) ?_
    refine lv_iadd hx hb gX3_holdOrLeave_1.2.2.2.2.1 ?_
    refine eqi (x1 := 12) (by decide) ?_
    refine aldC hC hK hP 1 rfl (vin (by decide +kernel)) (k := 12) (by decide +kernel) (v := kc12) (hh12) gX3_holdOrLeave_1.2.2.2.2.2.1 ?_
    refine lv_aload_n hx hb gX3_holdOrLeave_1.2.2.2.2.2.2.1 rfl (lv_at0 hl) ?_
    refine gf_X3_11 hC rfl hK hP 0 rfl rfl gX3_holdOrLeave_1.2.2.2.2.2.2.2.1 ?_
    refine lv_iload hx hb gX3_holdOrLeave_1.2.2.2.2.2.2.2.2.1 (lv_at4 hl) ?_
    refine aldC hC hK hP 1 rfl (vin (by decide +kernel)) (k := 11) (by decide +kernel) (v := kc11) (hh11) gX3_holdOrLeave_1.2.2.2.2.2.2.2.2.2 ?_
    refine vV (wr := [(h0, oX3 bb hd bo (nI jl) (nI jb)), (hd, cA G 13 hf), (kc0, oX1 km0), (km0, iA G 36 fk0), (kc1, oX1 km1), (km1, iA G 36 fk1), (kc2, oX1 km2), (km2, iA G 36 fk2), (kc3, oX1 km3), (km3, iA G 36 fk3), (kc4, oX1 km4), (km4, iA G 36 fk4), (kc5, oX1 km5), (km5, iA G 36 fk5), (kc6, oX1 km6), (km6, iA G 36 fk6), (kc7, oX1 km7), (km7, iA G 36 fk7), (kc8, oX1 km8), (km8, iA G 36 fk8), (kc9, oX1 km9), (km9, iA G 36 fk9), (kc10, oX1 km10), (km10, iA G 36 fk10), (bb, oX0 bpersons bpapers bstamps bversions blines bsteps bsayings bfindings bwarnings bquestions td vd vl gp), (bstamps, oX8 24 3 bstampsc (nI kbstamps)), (bstampsc, iA G 72 fbstamps)]) hC hK hl hP hD hS hA (c_Cl_copyX l G kc12 kc11 km12 fk12 km11 fk11) si_X3_62 [26, 27, 24, 25] [0, 1, 2, 3, 4, 5, 6, 7, 8, 9, 10, 11, 12, 13, 14, 15, 16, 17, 18, 19, 20, 21, 22, 23, 28, 29, 30] sm_26_27_24_25 fm_26_27_24_25 nd_26_27_24_25 sm_0_1_2_3_4_5_6_7_8_9_10_11_12_13_14_15_16_17_18_19_20_21_22_23_28_29_30 nd_0_1_2_3_4_5_6_7_8_9_10_11_12_13_14_15_16_17_18_19_20_21_22_23_28_29_30 dj_26_27_24_25__0_1_2_3_4_5_6_7_8_9_10_11_12_13_14_15_16_17_18_19_20_21_22_23_28_29_30 rfl rfl rfl rfl rfl (Nat.le_of_ble_eq_true rfl) ⟨by simp only [RM]; omega, by simp only [RM]; omega⟩ ⟨Nat.le_of_ble_eq_true rfl, Nat.le_of_ble_eq_true rfl⟩ gX3_holdOrLeave_2.1 (fun f12920 H locs hr2918 hP hD hS => ?_)
    try dsimp only at hr2918
    refine Kpdr (ws := [(h0, oX3 bb hd bo (nI jl) (nI jb)), (hd, cA G 13 hf), (kc0, oX1 km0), (km0, iA G 36 fk0), (kc1, oX1 km1), (km1, iA G 36 fk1), (kc2, oX1 km2), (km2, iA G 36 fk2), (kc3, oX1 km3), (km3, iA G 36 fk3), (kc4, oX1 km4), (km4, iA G 36 fk4), (kc5, oX1 km5), (km5, iA G 36 fk5), (kc6, oX1 km6), (km6, iA G 36 fk6), (kc7, oX1 km7), (km7, iA G 36 fk7), (kc8, oX1 km8), (km8, iA G 36 fk8), (kc9, oX1 km9), (km9, iA G 36 fk9), (kc10, oX1 km10), (km10, iA G 36 fk10), (bb, oX0 bpersons bpapers bstamps bversions blines bsteps bsayings bfindings bwarnings bquestions td vd vl gp), (bstamps, oX8 24 3 bstampsc (nI kbstamps)), (bstampsc, iA G 72 fbstamps), (kc12, oX1 km12), (km12, iA G 36 f12920), (kc11, oX1 km11), (km11, iA G 36 fk11)]) hP hD (fun hP hD => ?_)
    have w2921 := hr2918
    refine lv_aload_n hx hb gX3_holdOrLeave_2.2.1 rfl (lv_at0 hl) ?_
    refine lv_iload_n hx hb gX3_holdOrLeave_2.2.2.1 rfl (lv_at1 hl) ?_
    refine lv_aload_n hx hb gX3_holdOrLeave_2.2.2.2.1 rfl (lv_at0 hl) ?_
    refine gf_X3_11 hC rfl hK hP 0 rfl rfl gX3_holdOrLeave_2.2.2.2.2.1 ?_
    refine lv_iload hx hb gX3_holdOrLeave_2.2.2.2.2.2.1 (lv_at4 hl) ?_
    refine lv_iconst (v := 1) hx hb gX3_holdOrLeave_2.2.2.2.2.2.2.1 (by decide) ?_
    refine lv_iadd hx hb gX3_holdOrLeave_2.2.2.2.2.2.2.2.1 ?_
    refine eqi (x1 := 12) (by decide) ?_
    refine aldC hC hK hP 1 rfl (vin (by decide +kernel)) (k := 12) (by decide +kernel) (v := kc12) (hh12) gX3_holdOrLeave_2.2.2.2.2.2.2.2.2.1 ?_
    have hcq9 : CLB (KHL fbstamps B9 gp.toInt kbstamps (j + 1) jw) (MAT f12920) := CLB.cg (f := fk11) hKH w2921
    refine iV (wr := [(hd, cA G 13 hf), (kc0, oX1 km0), (km0, iA G 36 fk0), (kc1, oX1 km1), (km1, iA G 36 fk1), (kc2, oX1 km2), (km2, iA G 36 fk2), (kc3, oX1 km3), (km3, iA G 36 fk3), (kc4, oX1 km4), (km4, iA G 36 fk4), (kc5, oX1 km5), (km5, iA G 36 fk5), (kc6, oX1 km6), (km6, iA G 36 fk6), (kc7, oX1 km7), (km7, iA G 36 fk7), (kc8, oX1 km8), (km8, iA G 36 fk8), (kc9, oX1 km9), (km9, iA G 36 fk9), (kc10, oX1 km10), (km10, iA G 36 fk10), (kc11, oX1 km11), (km11, iA G 36 fk11)]) hC hK hl hP hD hS hA (c_isRightX l G (KHL fbstamps B9 gp.toInt kbstamps (j + 1) jw) h0 j kc12 bb hd bo (nI jl) (nI jb) bpersons bpapers bstamps bversions blines bsteps bsayings bfindings bwarnings bquestions td vd vl gp bstampsc kbstamps fbstamps km12 f12920 (hkbstamps) (hcq9) (hSV) (hgp) (by omega)) si_X3_66 [0, 24, 25, 26, 27, 28] [1, 2, 3, 4, 5, 6, 7, 8, 9, 10, 11, 12, 13, 14, 15, 16, 17, 18, 19, 20, 21, 22, 23, 29, 30] sm_0_24_25_26_27_28 fm_0_24_25_26_27_28 nd_0_24_25_26_27_28 sm_1_2_3_4_5_6_7_8_9_10_11_12_13_14_15_16_17_18_19_20_21_22_23_29_30 nd_1_2_3_4_5_6_7_8_9_10_11_12_13_14_15_16_17_18_19_20_21_22_23_29_30 dj_0_24_25_26_27_28__1_2_3_4_5_6_7_8_9_10_11_12_13_14_15_16_17_18_19_20_21_22_23_29_30 rfl rfl rfl rfl rfl (Nat.le_of_ble_eq_true rfl) ⟨by simp only [RM]; omega, by simp only [RM]; omega⟩ ⟨Nat.le_of_ble_eq_true rfl, Nat.le_of_ble_eq_true rfl⟩ gX3_holdOrLeave_2.2.2.2.2.2.2.2.2.2 (fun r2922 gx2924 H locs hr2922 hP hD hS => ?_)
    try dsimp only at hr2922
    refine Kpdr (ws := [(hd, cA G 13 hf), (kc0, oX1 km0), (km0, iA G 36 fk0), (kc1, oX1 km1), (km1, iA G 36 fk1), (kc2, oX1 km2), (km2, iA G 36 fk2), (kc3, oX1 km3), (km3, iA G 36 fk3), (kc4, oX1 km4), (km4, iA G 36 fk4), (kc5, oX1 km5), (km5, iA G 36 fk5), (kc6, oX1 km6), (km6, iA G 36 fk6), (kc7, oX1 km7), (km7, iA G 36 fk7), (kc8, oX1 km8), (km8, iA G 36 fk8), (kc9, oX1 km9), (km9, iA G 36 fk9), (kc10, oX1 km10), (km10, iA G 36 fk10), (kc11, oX1 km11), (km11, iA G 36 fk11), (h0, oX3 bb hd bo (nI jl) (nI jb)), (bb, oX0 bpersons bpapers bstamps bversions blines bsteps bsayings bfindings bwarnings bquestions td vd vl gp), (bstamps, oX8 24 3 bstampsc (nI kbstamps)), (bstampsc, iA G 72 fbstamps), (kc12, oX1 km12), (km12, iA G 36 gx2924)]) hP hD (fun hP hD => ?_)
    rcases hr2922 with ⟨rfl, a2925⟩ | ⟨rfl, a2925⟩
    · refine lv_if_eq (tgt := 67) hx hb gX3_holdOrLeave_3.1 (by decide) (fun c9 => absurd c9 (by decide)) (fun _ => ?_)
      refine lv_aload_n hx hb gX3_holdOrLeave_3.2.1 rfl (lv_at0 hl) ?_
      refine lv_iload_n hx hb gX3_holdOrLeave_3.2.2.1 rfl (lv_at1 hl) ?_
      refine lv_iconst (v := 1) hx hb gX3_holdOrLeave_3.2.2.2.1 (by decide) ?_
      refine lv_isub hx hb gX3_holdOrLeave_3.2.2.2.2.1 ?_
      refine lv_iload_n hx hb gX3_holdOrLeave_3.2.2.2.2.2.1 rfl (lv_at2 hl) ?_
      refine lv_iload_n hx hb gX3_holdOrLeave_3.2.2.2.2.2.2.1 rfl (lv_at3 hl) ?_
      refine lv_iload hx hb gX3_holdOrLeave_3.2.2.2.2.2.2.2.1 (lv_at4 hl) ?_
      refine lv_iconst (v := 1) hx hb gX3_holdOrLeave_3.2.2.2.2.2.2.2.2.1 (by decide) ?_
      refine lv_iadd hx hb gX3_holdOrLeave_3.2.2.2.2.2.2.2.2.2 ?_
      refine eqi (x1 := 12) (by decide) ?_
      have hkn9 : CLB (KHL fbstamps B9 gp.toInt kbstamps j jw) (MAT (MGT [fk0, fk1, fk2, fk3, fk4, fk5, fk6, fk7, fk8, fk9, fk10, fk11, gx2924] 12)) := by have h9 := a2925; rw [KHL.hold hSV hbj hwj] at h9; exact h9
      have hmk8 : MKP [fk0, fk1, fk2, fk3, fk4, fk5, fk6, fk7, fk8, fk9, fk10, fk11, fk12] [fk0, fk1, fk2, fk3, fk4, fk5, fk6, fk7, fk8, fk9, fk10, fk11, gx2924] 11 := fun j9 h9 => by rcases (show j9 = 0 ∨ j9 = 1 ∨ j9 = 2 ∨ j9 = 3 ∨ j9 = 4 ∨ j9 = 5 ∨ j9 = 6 ∨ j9 = 7 ∨ j9 = 8 ∨ j9 = 9 ∨ j9 = 10 ∨ j9 = 11 by omega) with rfl | rfl | rfl | rfl | rfl | rfl | rfl | rfl | rfl | rfl | rfl | rfl <;> rfl
      refine vV (wr := []) hC hK hl hP hD hS hA (ihS j (by omega) V9 B9 h0 jw jc 12 bb hd bo jl jb hf kc0 km0 fk0 kc1 km1 fk1 kc2 km2 fk2 kc3 km3 fk3 kc4 km4 fk4 kc5 km5 fk5 kc6 km6 fk6 kc7 km7 fk7 kc8 km8 fk8 kc9 km9 fk9 kc10 km10 fk10 kc11 km11 fk11 kc12 km12 gx2924 bpersons bpapers bstamps bversions blines bsteps bsayings bfindings bwarnings bquestions td vd vl gp bstampsc kbstamps fbstamps (by omega) (by omega) hh0 hh1 hh2 hh3 hh4 hh5 hh6 hh7 hh8 hh9 hh10 hh11 hh12 hSV hgp hBV hVB hBB hWS.dn hCT hkn9 hjl) si_X3_55 [25, 0, 1, 2, 3, 4, 5, 6, 7, 8, 9, 10, 11, 12, 13, 14, 15, 16, 17, 18, 19, 20, 21, 22, 23, 24, 29, 30, 26, 27, 28] [] sm_25_0_1_2_3_4_5_6_7_8_9_10_11_12_13_14_15_16_17_18_19_20_21_22_23_24_29_30_26_27_28 fm_25_0_1_2_3_4_5_6_7_8_9_10_11_12_13_14_15_16_17_18_19_20_21_22_23_24_29_30_26_27_28 nd_25_0_1_2_3_4_5_6_7_8_9_10_11_12_13_14_15_16_17_18_19_20_21_22_23_24_29_30_26_27_28 rfl rfl (by decide) rfl rfl rfl rfl rfl (Nat.le_of_ble_eq_true rfl) ⟨by simp only [RM]; omega, by simp only [RM]; omega⟩ ⟨Nat.le_of_ble_eq_true rfl, Nat.le_of_ble_eq_true rfl⟩ gX3_holdOrLeave_4.1 (Ktu15 fun jl12928 jb12929 gk02930 gk12931 gk22932 gk32933 gk42934 gk52935 gk62936 gk72937 gk82938 gk92939 gk102940 gk112941 gk122942 => ?_)
      intro H locs hr2926 hP hD hS
      try dsimp only at hr2926
      refine Kpdr (ws := [(h0, oX3 bb hd bo (nI jl12928) (nI jb12929)), (hd, cA G 13 hf), (kc0, oX1 km0), (km0, iA G 36 gk02930), (kc1, oX1 km1), (km1, iA G 36 gk12931), (kc2, oX1 km2), (km2, iA G 36 gk22932), (kc3, oX1 km3), (km3, iA G 36 gk32933), (kc4, oX1 km4), (km4, iA G 36 gk42934), (kc5, oX1 km5), (km5, iA G 36 gk52935), (kc6, oX1 km6), (km6, iA G 36 gk62936), (kc7, oX1 km7), (km7, iA G 36 gk72937), (kc8, oX1 km8), (km8, iA G 36 gk82938), (kc9, oX1 km9), (km9, iA G 36 gk92939), (kc10, oX1 km10), (km10, iA G 36 gk102940), (kc11, oX1 km11), (km11, iA G 36 gk112941), (kc12, oX1 km12), (km12, iA G 36 gk122942), (bb, oX0 bpersons bpapers bstamps bversions blines bsteps bsayings bfindings bwarnings bquestions td vd vl gp), (bstamps, oX8 24 3 bstampsc (nI kbstamps)), (bstampsc, iA G 72 fbstamps)]) hP hD (fun hP hD => ?_)
      have w2943 := hr2926
      refine lv_aload_n hx hb gX3_holdOrLeave_4.2.1 rfl (lv_at0 hl) ?_
      refine lv_iload_n hx hb gX3_holdOrLeave_4.2.2.1 rfl (lv_at1 hl) ?_
      refine lv_iconst (v := 1) hx hb gX3_holdOrLeave_4.2.2.2.1 (by decide) ?_
      refine lv_isub hx hb gX3_holdOrLeave_4.2.2.2.2.1 ?_
      refine lv_iload_n hx hb gX3_holdOrLeave_4.2.2.2.2.2.1 rfl (lv_at2 hl) ?_
      refine lv_iconst (v := 1) hx hb gX3_holdOrLeave_4.2.2.2.2.2.2.1 (by decide) ?_
      refine lv_iload_n hx hb gX3_holdOrLeave_4.2.2.2.2.2.2.2.1 rfl (lv_at1 hl) ?_
      refine lv_ishl hx hb gX3_holdOrLeave_4.2.2.2.2.2.2.2.2.1 ?_
      refine lv_ior hx hb gX3_holdOrLeave_4.2.2.2.2.2.2.2.2.2 ?_
      refine eqi (x1 := nI (jw ||| 2 ^ j)) (nI_orb hj12) ?_
      refine lv_iload_n hx hb gX3_holdOrLeave_5.1 rfl (lv_at3 hl) ?_
      refine lv_iconst (v := 1) hx hb gX3_holdOrLeave_5.2.1 (by decide) ?_
      refine lv_iadd hx hb gX3_holdOrLeave_5.2.2.1 ?_
      refine eqi (x1 := nI (jc + 1)) (nI_1 jc) ?_
      refine lv_iload hx hb gX3_holdOrLeave_5.2.2.2.1 (lv_at4 hl) ?_
      have hre8 : RES (TRE B9 j jw) (GDW fbstamps V9 gp.toInt kbstamps) jl jb jl12928 jb12929 := w2943.1
      have hmk7 : MKP [fk0, fk1, fk2, fk3, fk4, fk5, fk6, fk7, fk8, fk9, fk10, fk11, fk12] [gk02930, gk12931, gk22932, gk32933, gk42934, gk52935, gk62936, gk72937, gk82938, gk92939, gk102940, gk112941, gk122942] 11 := hmk8.tr (w2943.2.le (by omega))
      have hle9 : jl12928 ≤ 13 := Nat.le_trans hre8.le hjl
      have hkm9 : CLB (KHL fbstamps B9 gp.toInt kbstamps j (jw ||| 2 ^ j)) (MAT (MGT [gk02930, gk12931, gk22932, gk32933, gk42934, gk52935, gk62936, gk72937, gk82938, gk92939, gk102940, gk112941, gk122942] 11)) := by rw [hmk7 11 (Nat.le_refl _), KHL.leave hSV]; exact hKH
      have hct9 : jc + 1 = PCN (jw ||| 2 ^ j) 12 := by rw [PCN.or hwj, if_pos hj12, hCT]
      refine vV (wr := []) hC hK hl hP hD hS hA (ihS j (by omega) V9 B9 h0 (jw ||| 2 ^ j) (jc + 1) 11 bb hd bo jl12928 jb12929 hf kc0 km0 gk02930 kc1 km1 gk12931 kc2 km2 gk22932 kc3 km3 gk32933 kc4 km4 gk42934 kc5 km5 gk52935 kc6 km6 gk62936 kc7 km7 gk72937 kc8 km8 gk82938 kc9 km9 gk92939 kc10 km10 gk102940 kc11 km11 gk112941 kc12 km12 gk122942 bpersons bpapers bstamps bversions blines bsteps bsayings bfindings bwarnings bquestions td vd vl gp bstampsc kbstamps fbstamps (by omega) (by omega) hh0 hh1 hh2 hh3 hh4 hh5 hh6 hh7 hh8 hh9 hh10 hh11 hh12 hSV hgp hBV hVB hBB (hWS.or hj12 hbj) hct9 hkm9 hle9) si_X3_55 [0, 1, 2, 3, 4, 5, 6, 7, 8, 9, 10, 11, 12, 13, 14, 15, 16, 17, 18, 19, 20, 21, 22, 23, 24, 25, 26, 27, 28, 29, 30] [] sm_0_1_2_3_4_5_6_7_8_9_10_11_12_13_14_15_16_17_18_19_20_21_22_23_24_25_26_27_28_29_30 fm_0_1_2_3_4_5_6_7_8_9_10_11_12_13_14_15_16_17_18_19_20_21_22_23_24_25_26_27_28_29_30 nd_0_1_2_3_4_5_6_7_8_9_10_11_12_13_14_15_16_17_18_19_20_21_22_23_24_25_26_27_28_29_30 rfl rfl (by decide) rfl rfl rfl rfl rfl (Nat.le_of_ble_eq_true rfl) ⟨by simp only [RM]; omega, by simp only [RM]; omega⟩ ⟨Nat.le_of_ble_eq_true rfl, Nat.le_of_ble_eq_true rfl⟩ gX3_holdOrLeave_5.2.2.2.2.1 (Ktu15 fun jl12946 jb12947 gk02948 gk12949 gk22950 gk32951 gk42952 gk52953 gk62954 gk72955 gk82956 gk92957 gk102958 gk112959 gk122960 => ?_)
      intro H locs hr2944 hP hD hS
      try dsimp only at hr2944
      refine Kpdr (ws := [(h0, oX3 bb hd bo (nI jl12946) (nI jb12947)), (hd, cA G 13 hf), (kc0, oX1 km0), (km0, iA G 36 gk02948), (kc1, oX1 km1), (km1, iA G 36 gk12949), (kc2, oX1 km2), (km2, iA G 36 gk22950), (kc3, oX1 km3), (km3, iA G 36 gk32951), (kc4, oX1 km4), (km4, iA G 36 gk42952), (kc5, oX1 km5), (km5, iA G 36 gk52953), (kc6, oX1 km6), (km6, iA G 36 gk62954), (kc7, oX1 km7), (km7, iA G 36 gk72955), (kc8, oX1 km8), (km8, iA G 36 gk82956), (kc9, oX1 km9), (km9, iA G 36 gk92957), (kc10, oX1 km10), (km10, iA G 36 gk102958), (kc11, oX1 km11), (km11, iA G 36 gk112959), (kc12, oX1 km12), (km12, iA G 36 gk122960), (bb, oX0 bpersons bpapers bstamps bversions blines bsteps bsayings bfindings bwarnings bquestions td vd vl gp), (bstamps, oX8 24 3 bstampsc (nI kbstamps)), (bstampsc, iA G 72 fbstamps)]) hP hD (fun hP hD => ?_)
      have w2961 := hr2944
      refine toQ hQ0 ?_
      exact RV hC hP hD hS [0, 1, 2, 3, 4, 5, 6, 7, 8, 9, 10, 11, 12, 13, 14, 15, 16, 17, 18, 19, 20, 21, 22, 23, 24, 25, 26, 27, 28, 29, 30] (jl12946, jb12947, gk02948, gk12949, gk22950, gk32951, gk42952, gk52953, gk62954, gk72955, gk82956, gk92957, gk102958, gk112959, gk122960) rfl rfl (by decide) (⟨RES.seq hre8 w2961.1 (fun W9 => TRE.two hwj hj12) (fun V8 W8 => TRE.lt hwj hj12), hmk7.tr w2961.2⟩) gX3_holdOrLeave_5.2.2.2.2.2
    · refine lv_if_eq (tgt := 67) hx hb gX3_holdOrLeave_3.1 (by decide) (fun _ => ?_) (fun c9 => absurd (by decide) c9)
      refine lv_aload_n hx hb gX3_holdOrLeave_4.2.1 rfl (lv_at0 hl) ?_
      refine lv_iload_n hx hb gX3_holdOrLeave_4.2.2.1 rfl (lv_at1 hl) ?_
      refine lv_iconst (v := 1) hx hb gX3_holdOrLeave_4.2.2.2.1 (by decide) ?_
      refine lv_isub hx hb gX3_holdOrLeave_4.2.2.2.2.1 ?_
      refine lv_iload_n hx hb gX3_holdOrLeave_4.2.2.2.2.2.1 rfl (lv_at2 hl) ?_
      refine lv_iconst (v := 1) hx hb gX3_holdOrLeave_4.2.2.2.2.2.2.1 (by decide) ?_
      refine lv_iload_n hx hb gX3_holdOrLeave_4.2.2.2.2.2.2.2.1 rfl (lv_at1 hl) ?_
      refine lv_ishl hx hb gX3_holdOrLeave_4.2.2.2.2.2.2.2.2.1 ?_
      refine lv_ior hx hb gX3_holdOrLeave_4.2.2.2.2.2.2.2.2.2 ?_
      refine eqi (x1 := nI (jw ||| 2 ^ j)) (nI_orb hj12) ?_
      refine lv_iload_n hx hb gX3_holdOrLeave_5.1 rfl (lv_at3 hl) ?_
      refine lv_iconst (v := 1) hx hb gX3_holdOrLeave_5.2.1 (by decide) ?_
      refine lv_iadd hx hb gX3_holdOrLeave_5.2.2.1 ?_
      refine eqi (x1 := nI (jc + 1)) (nI_1 jc) ?_
      refine lv_iload hx hb gX3_holdOrLeave_5.2.2.2.1 (lv_at4 hl) ?_
      have hno9 : NOS (KHL fbstamps B9 gp.toInt kbstamps j jw) := by have h9 := a2925; rw [KHL.hold hSV hbj hwj] at h9; exact h9
      have hre8 : RES (TRE B9 j jw) (GDW fbstamps V9 gp.toInt kbstamps) jl jb jl jb := RES.none (fun W9 h8 h9 => absurd h9 (KHL.none hSV hBV hno9 h8))
      have hmk7 : MKP [fk0, fk1, fk2, fk3, fk4, fk5, fk6, fk7, fk8, fk9, fk10, fk11, fk12] [fk0, fk1, fk2, fk3, fk4, fk5, fk6, fk7, fk8, fk9, fk10, fk11, gx2924] 11 := fun j9 h9 => by rcases (show j9 = 0 ∨ j9 = 1 ∨ j9 = 2 ∨ j9 = 3 ∨ j9 = 4 ∨ j9 = 5 ∨ j9 = 6 ∨ j9 = 7 ∨ j9 = 8 ∨ j9 = 9 ∨ j9 = 10 ∨ j9 = 11 by omega) with rfl | rfl | rfl | rfl | rfl | rfl | rfl | rfl | rfl | rfl | rfl | rfl <;> rfl
      have hle9 : jl ≤ 13 := Nat.le_trans hre8.le hjl
      have hkm9 : CLB (KHL fbstamps B9 gp.toInt kbstamps j (jw ||| 2 ^ j)) (MAT (MGT [fk0, fk1, fk2, fk3, fk4, fk5, fk6, fk7, fk8, fk9, fk10, fk11, gx2924] 11)) := by rw [hmk7 11 (Nat.le_refl _), KHL.leave hSV]; exact hKH
      have hct9 : jc + 1 = PCN (jw ||| 2 ^ j) 12 := by rw [PCN.or hwj, if_pos hj12, hCT]
      refine vV (wr := []) hC hK hl hP hD hS hA (ihS j (by omega) V9 B9 h0 (jw ||| 2 ^ j) (jc + 1) 11 bb hd bo jl jb hf kc0 km0 fk0 kc1 km1 fk1 kc2 km2 fk2 kc3 km3 fk3 kc4 km4 fk4 kc5 km5 fk5 kc6 km6 fk6 kc7 km7 fk7 kc8 km8 fk8 kc9 km9 fk9 kc10 km10 fk10 kc11 km11 fk11 kc12 km12 gx2924 bpersons bpapers bstamps bversions blines bsteps bsayings bfindings bwarnings bquestions td vd vl gp bstampsc kbstamps fbstamps (by omega) (by omega) hh0 hh1 hh2 hh3 hh4 hh5 hh6 hh7 hh8 hh9 hh10 hh11 hh12 hSV hgp hBV hVB hBB (hWS.or hj12 hbj) hct9 hkm9 hle9) si_X3_55 [25, 0, 1, 2, 3, 4, 5, 6, 7, 8, 9, 10, 11, 12, 13, 14, 15, 16, 17, 18, 19, 20, 21, 22, 23, 24, 29, 30, 26, 27, 28] [] sm_25_0_1_2_3_4_5_6_7_8_9_10_11_12_13_14_15_16_17_18_19_20_21_22_23_24_29_30_26_27_28 fm_25_0_1_2_3_4_5_6_7_8_9_10_11_12_13_14_15_16_17_18_19_20_21_22_23_24_29_30_26_27_28 nd_25_0_1_2_3_4_5_6_7_8_9_10_11_12_13_14_15_16_17_18_19_20_21_22_23_24_29_30_26_27_28 rfl rfl (by decide) rfl rfl rfl rfl rfl (Nat.le_of_ble_eq_true rfl) ⟨by simp only [RM]; omega, by simp only [RM]; omega⟩ ⟨Nat.le_of_ble_eq_true rfl, Nat.le_of_ble_eq_true rfl⟩ gX3_holdOrLeave_5.2.2.2.2.1 (Ktu15 fun jl12964 jb12965 gk02966 gk12967 gk22968 gk32969 gk42970 gk52971 gk62972 gk72973 gk82974 gk92975 gk102976 gk112977 gk122978 => ?_)
      intro H locs hr2962 hP hD hS
      try dsimp only at hr2962
      refine Kpdr (ws := [(h0, oX3 bb hd bo (nI jl12964) (nI jb12965)), (hd, cA G 13 hf), (kc0, oX1 km0), (km0, iA G 36 gk02966), (kc1, oX1 km1), (km1, iA G 36 gk12967), (kc2, oX1 km2), (km2, iA G 36 gk22968), (kc3, oX1 km3), (km3, iA G 36 gk32969), (kc4, oX1 km4), (km4, iA G 36 gk42970), (kc5, oX1 km5), (km5, iA G 36 gk52971), (kc6, oX1 km6), (km6, iA G 36 gk62972), (kc7, oX1 km7), (km7, iA G 36 gk72973), (kc8, oX1 km8), (km8, iA G 36 gk82974), (kc9, oX1 km9), (km9, iA G 36 gk92975), (kc10, oX1 km10), (km10, iA G 36 gk102976), (kc11, oX1 km11), (km11, iA G 36 gk112977), (kc12, oX1 km12), (km12, iA G 36 gk122978), (bb, oX0 bpersons bpapers bstamps bversions blines bsteps bsayings bfindings bwarnings bquestions td vd vl gp), (bstamps, oX8 24 3 bstampsc (nI kbstamps)), (bstampsc, iA G 72 fbstamps)]) hP hD (fun hP hD => ?_)
      have w2979 := hr2962
      refine toQ hQ0 ?_
      exact RV hC hP hD hS [0, 1, 2, 3, 4, 5, 6, 7, 8, 9, 10, 11, 12, 13, 14, 15, 16, 17, 18, 19, 20, 21, 22, 23, 24, 25, 26, 27, 28, 29, 30] (jl12964, jb12965, gk02966, gk12967, gk22968, gk32969, gk42970, gk52971, gk62972, gk72973, gk82974, gk92975, gk102976, gk112977, gk122978) rfl rfl (by decide) (⟨RES.seq hre8 w2979.1 (fun W9 => TRE.two hwj hj12) (fun V8 W8 => TRE.lt hwj hj12), hmk7.tr w2979.2⟩) gX3_holdOrLeave_5.2.2.2.2.2
def K_c_searchX_step (l : Launch) (G : GG) (mn : Nat) (V9 : Nat → Prop) (B9 : Nat → Prop) (h0 : Nat) (jw : Nat) (jc : Nat) (lv : Nat) (bb : Nat) (hd : Nat) (bo : Int32) (jl : Nat) (jb : Nat) (hf : Nat → Option Nat) (kc0 : Nat) (km0 : Nat) (fk0 : Nat → Int32) (kc1 : Nat) (km1 : Nat) (fk1 : Nat → Int32) (kc2 : Nat) (km2 : Nat) (fk2 : Nat → Int32) (kc3 : Nat) (km3 : Nat) (fk3 : Nat → Int32) (kc4 : Nat) (km4 : Nat) (fk4 : Nat → Int32) (kc5 : Nat) (km5 : Nat) (fk5 : Nat → Int32) (kc6 : Nat) (km6 : Nat) (fk6 : Nat → Int32) (kc7 : Nat) (km7 : Nat) (fk7 : Nat → Int32) (kc8 : Nat) (km8 : Nat) (fk8 : Nat → Int32) (kc9 : Nat) (km9 : Nat) (fk9 : Nat → Int32) (kc10 : Nat) (km10 : Nat) (fk10 : Nat → Int32) (kc11 : Nat) (km11 : Nat) (fk11 : Nat → Int32) (kc12 : Nat) (km12 : Nat) (fk12 : Nat → Int32) (bpersons : Nat) (bpapers : Nat) (bstamps : Nat) (bversions : Nat) (blines : Nat) (bsteps : Nat) (bsayings : Nat) (bfindings : Nat) (bwarnings : Nat) (bquestions : Nat) (td : Int32) (vd : Int32) (vl : Int32) (gp : Int32) (bstampsc : Nat) (kbstamps : Nat) (fbstamps : Nat → Int32) : Prop := MV l G yX3_search cX3_search 6 (6 + 2 * mn) 0 0 [.ref h0, .int (nI mn - 1), .int (nI jw), .int (nI jc), .int (nI lv)] [(h0, oX3 bb hd bo (nI jl) (nI jb)), (hd, cA G 13 hf), (kc0, oX1 km0), (km0, iA G 36 fk0), (kc1, oX1 km1), (km1, iA G 36 fk1), (kc2, oX1 km2), (km2, iA G 36 fk2), (kc3, oX1 km3), (km3, iA G 36 fk3), (kc4, oX1 km4), (km4, iA G 36 fk4), (kc5, oX1 km5), (km5, iA G 36 fk5), (kc6, oX1 km6), (km6, iA G 36 fk6), (kc7, oX1 km7), (km7, iA G 36 fk7), (kc8, oX1 km8), (km8, iA G 36 fk8), (kc9, oX1 km9), (km9, iA G 36 fk9), (kc10, oX1 km10), (km10, iA G 36 fk10), (kc11, oX1 km11), (km11, iA G 36 fk11), (kc12, oX1 km12), (km12, iA G 36 fk12), (bb, oX0 bpersons bpapers bstamps bversions blines bsteps bsayings bfindings bwarnings bquestions td vd vl gp), (bstamps, oX8 24 3 bstampsc (nI kbstamps)), (bstampsc, iA G 72 fbstamps)] (fun u : Nat × Nat × (Nat → Int32) × (Nat → Int32) × (Nat → Int32) × (Nat → Int32) × (Nat → Int32) × (Nat → Int32) × (Nat → Int32) × (Nat → Int32) × (Nat → Int32) × (Nat → Int32) × (Nat → Int32) × (Nat → Int32) × (Nat → Int32) => RES (TRE B9 mn jw) (GDW fbstamps V9 gp.toInt kbstamps) jl jb u.1 u.2.1 ∧ MKP [fk0, fk1, fk2, fk3, fk4, fk5, fk6, fk7, fk8, fk9, fk10, fk11, fk12] [u.2.2.1, u.2.2.2.1, u.2.2.2.2.1, u.2.2.2.2.2.1, u.2.2.2.2.2.2.1, u.2.2.2.2.2.2.2.1, u.2.2.2.2.2.2.2.2.1, u.2.2.2.2.2.2.2.2.2.1, u.2.2.2.2.2.2.2.2.2.2.1, u.2.2.2.2.2.2.2.2.2.2.2.1, u.2.2.2.2.2.2.2.2.2.2.2.2.1, u.2.2.2.2.2.2.2.2.2.2.2.2.2.1, u.2.2.2.2.2.2.2.2.2.2.2.2.2.2] lv) (fun u : Nat × Nat × (Nat → Int32) × (Nat → Int32) × (Nat → Int32) × (Nat → Int32) × (Nat → Int32) × (Nat → Int32) × (Nat → Int32) × (Nat → Int32) × (Nat → Int32) × (Nat → Int32) × (Nat → Int32) × (Nat → Int32) × (Nat → Int32) => [(h0, oX3 bb hd bo (nI u.1) (nI u.2.1)), (hd, cA G 13 hf), (kc0, oX1 km0), (km0, iA G 36 u.2.2.1), (kc1, oX1 km1), (km1, iA G 36 u.2.2.2.1), (kc2, oX1 km2), (km2, iA G 36 u.2.2.2.2.1), (kc3, oX1 km3), (km3, iA G 36 u.2.2.2.2.2.1), (kc4, oX1 km4), (km4, iA G 36 u.2.2.2.2.2.2.1), (kc5, oX1 km5), (km5, iA G 36 u.2.2.2.2.2.2.2.1), (kc6, oX1 km6), (km6, iA G 36 u.2.2.2.2.2.2.2.2.1), (kc7, oX1 km7), (km7, iA G 36 u.2.2.2.2.2.2.2.2.2.1), (kc8, oX1 km8), (km8, iA G 36 u.2.2.2.2.2.2.2.2.2.2.1), (kc9, oX1 km9), (km9, iA G 36 u.2.2.2.2.2.2.2.2.2.2.2.1), (kc10, oX1 km10), (km10, iA G 36 u.2.2.2.2.2.2.2.2.2.2.2.2.1), (kc11, oX1 km11), (km11, iA G 36 u.2.2.2.2.2.2.2.2.2.2.2.2.2.1), (kc12, oX1 km12), (km12, iA G 36 u.2.2.2.2.2.2.2.2.2.2.2.2.2.2), (bb, oX0 bpersons bpapers bstamps bversions blines bsteps bsayings bfindings bwarnings bquestions td vd vl gp), (bstamps, oX8 24 3 bstampsc (nI kbstamps)), (bstampsc, iA G 72 fbstamps)])
set_option maxHeartbeats 4000000 in
set_option maxRecDepth 100000 in
theorem c_searchX_step (l : Launch) (G : GG) (mn : Nat) (V9 : Nat → Prop) (B9 : Nat → Prop) (h0 : Nat) (jw : Nat) (jc : Nat) (lv : Nat) (bb : Nat) (hd : Nat) (bo : Int32) (jl : Nat) (jb : Nat) (hf : Nat → Option Nat) (kc0 : Nat) (km0 : Nat) (fk0 : Nat → Int32) (kc1 : Nat) (km1 : Nat) (fk1 : Nat → Int32) (kc2 : Nat) (km2 : Nat) (fk2 : Nat → Int32) (kc3 : Nat) (km3 : Nat) (fk3 : Nat → Int32) (kc4 : Nat) (km4 : Nat) (fk4 : Nat → Int32) (kc5 : Nat) (km5 : Nat) (fk5 : Nat → Int32) (kc6 : Nat) (km6 : Nat) (fk6 : Nat → Int32) (kc7 : Nat) (km7 : Nat) (fk7 : Nat → Int32) (kc8 : Nat) (km8 : Nat) (fk8 : Nat → Int32) (kc9 : Nat) (km9 : Nat) (fk9 : Nat → Int32) (kc10 : Nat) (km10 : Nat) (fk10 : Nat → Int32) (kc11 : Nat) (km11 : Nat) (fk11 : Nat → Int32) (kc12 : Nat) (km12 : Nat) (fk12 : Nat → Int32) (bpersons : Nat) (bpapers : Nat) (bstamps : Nat) (bversions : Nat) (blines : Nat) (bsteps : Nat) (bsayings : Nat) (bfindings : Nat) (bwarnings : Nat) (bquestions : Nat) (td : Int32) (vd : Int32) (vl : Int32) (gp : Int32) (bstampsc : Nat) (kbstamps : Nat) (fbstamps : Nat → Int32) (hm : mn ≤ 12) (hkbstamps : kbstamps ≤ 24) (hlv : lv + mn ≤ 12) (hh0 : hf 0 = some kc0) (hh1 : hf 1 = some kc1) (hh2 : hf 2 = some kc2) (hh3 : hf 3 = some kc3) (hh4 : hf 4 = some kc4) (hh5 : hf 5 = some kc5) (hh6 : hf 6 = some kc6) (hh7 : hf 7 = some kc7) (hh8 : hf 8 = some kc8) (hh9 : hf 9 = some kc9) (hh10 : hf 10 = some kc10) (hh11 : hf 11 = some kc11) (hh12 : hf 12 = some kc12) (hSV : SVL fbstamps kbstamps) (hgp : GPR gp) (hBV : ∀ p, B9 p → V9 p) (hVB : ∀ p, p < 12 → MST fbstamps kbstamps p → V9 p → B9 p) (hBB : ∀ p, p < 12 → (HB bo (nI p) ↔ B9 p)) (hWS : WST B9 mn jw) (hCT : jc = PCN jw 12) (hKH : CLB (KHL fbstamps B9 gp.toInt kbstamps mn jw) (MAT (MGT [fk0, fk1, fk2, fk3, fk4, fk5, fk6, fk7, fk8, fk9, fk10, fk11, fk12] lv))) (hjl : jl ≤ 13) (ihS : ∀ m9, m9 < mn → ∀ (V9 : Nat → Prop) (B9 : Nat → Prop) (h0 : Nat) (jw : Nat) (jc : Nat) (lv : Nat) (bb : Nat) (hd : Nat) (bo : Int32) (jl : Nat) (jb : Nat) (hf : Nat → Option Nat) (kc0 : Nat) (km0 : Nat) (fk0 : Nat → Int32) (kc1 : Nat) (km1 : Nat) (fk1 : Nat → Int32) (kc2 : Nat) (km2 : Nat) (fk2 : Nat → Int32) (kc3 : Nat) (km3 : Nat) (fk3 : Nat → Int32) (kc4 : Nat) (km4 : Nat) (fk4 : Nat → Int32) (kc5 : Nat) (km5 : Nat) (fk5 : Nat → Int32) (kc6 : Nat) (km6 : Nat) (fk6 : Nat → Int32) (kc7 : Nat) (km7 : Nat) (fk7 : Nat → Int32) (kc8 : Nat) (km8 : Nat) (fk8 : Nat → Int32) (kc9 : Nat) (km9 : Nat) (fk9 : Nat → Int32) (kc10 : Nat) (km10 : Nat) (fk10 : Nat → Int32) (kc11 : Nat) (km11 : Nat) (fk11 : Nat → Int32) (kc12 : Nat) (km12 : Nat) (fk12 : Nat → Int32) (bpersons : Nat) (bpapers : Nat) (bstamps : Nat) (bversions : Nat) (blines : Nat) (bsteps : Nat) (bsayings : Nat) (bfindings : Nat) (bwarnings : Nat) (bquestions : Nat) (td : Int32) (vd : Int32) (vl : Int32) (gp : Int32) (bstampsc : Nat) (kbstamps : Nat) (fbstamps : Nat → Int32) (hkbstamps : kbstamps ≤ 24) (hlv : lv + m9 ≤ 12) (hh0 : hf 0 = some kc0) (hh1 : hf 1 = some kc1) (hh2 : hf 2 = some kc2) (hh3 : hf 3 = some kc3) (hh4 : hf 4 = some kc4) (hh5 : hf 5 = some kc5) (hh6 : hf 6 = some kc6) (hh7 : hf 7 = some kc7) (hh8 : hf 8 = some kc8) (hh9 : hf 9 = some kc9) (hh10 : hf 10 = some kc10) (hh11 : hf 11 = some kc11) (hh12 : hf 12 = some kc12) (hSV : SVL fbstamps kbstamps) (hgp : GPR gp) (hBV : ∀ p, B9 p → V9 p) (hVB : ∀ p, p < 12 → MST fbstamps kbstamps p → V9 p → B9 p) (hBB : ∀ p, p < 12 → (HB bo (nI p) ↔ B9 p)) (hWS : WST B9 m9 jw) (hCT : jc = PCN jw 12) (hKH : CLB (KHL fbstamps B9 gp.toInt kbstamps m9 jw) (MAT (MGT [fk0, fk1, fk2, fk3, fk4, fk5, fk6, fk7, fk8, fk9, fk10, fk11, fk12] lv))) (hjl : jl ≤ 13), MV l G yX3_search cX3_search 6 (6 + 2 * m9) 0 0 [.ref h0, .int (nI m9 - 1), .int (nI jw), .int (nI jc), .int (nI lv)] [(h0, oX3 bb hd bo (nI jl) (nI jb)), (hd, cA G 13 hf), (kc0, oX1 km0), (km0, iA G 36 fk0), (kc1, oX1 km1), (km1, iA G 36 fk1), (kc2, oX1 km2), (km2, iA G 36 fk2), (kc3, oX1 km3), (km3, iA G 36 fk3), (kc4, oX1 km4), (km4, iA G 36 fk4), (kc5, oX1 km5), (km5, iA G 36 fk5), (kc6, oX1 km6), (km6, iA G 36 fk6), (kc7, oX1 km7), (km7, iA G 36 fk7), (kc8, oX1 km8), (km8, iA G 36 fk8), (kc9, oX1 km9), (km9, iA G 36 fk9), (kc10, oX1 km10), (km10, iA G 36 fk10), (kc11, oX1 km11), (km11, iA G 36 fk11), (kc12, oX1 km12), (km12, iA G 36 fk12), (bb, oX0 bpersons bpapers bstamps bversions blines bsteps bsayings bfindings bwarnings bquestions td vd vl gp), (bstamps, oX8 24 3 bstampsc (nI kbstamps)), (bstampsc, iA G 72 fbstamps)] (fun u : Nat × Nat × (Nat → Int32) × (Nat → Int32) × (Nat → Int32) × (Nat → Int32) × (Nat → Int32) × (Nat → Int32) × (Nat → Int32) × (Nat → Int32) × (Nat → Int32) × (Nat → Int32) × (Nat → Int32) × (Nat → Int32) × (Nat → Int32) => RES (TRE B9 m9 jw) (GDW fbstamps V9 gp.toInt kbstamps) jl jb u.1 u.2.1 ∧ MKP [fk0, fk1, fk2, fk3, fk4, fk5, fk6, fk7, fk8, fk9, fk10, fk11, fk12] [u.2.2.1, u.2.2.2.1, u.2.2.2.2.1, u.2.2.2.2.2.1, u.2.2.2.2.2.2.1, u.2.2.2.2.2.2.2.1, u.2.2.2.2.2.2.2.2.1, u.2.2.2.2.2.2.2.2.2.1, u.2.2.2.2.2.2.2.2.2.2.1, u.2.2.2.2.2.2.2.2.2.2.2.1, u.2.2.2.2.2.2.2.2.2.2.2.2.1, u.2.2.2.2.2.2.2.2.2.2.2.2.2.1, u.2.2.2.2.2.2.2.2.2.2.2.2.2.2] lv) (fun u : Nat × Nat × (Nat → Int32) × (Nat → Int32) × (Nat → Int32) × (Nat → Int32) × (Nat → Int32) × (Nat → Int32) × (Nat → Int32) × (Nat → Int32) × (Nat → Int32) × (Nat → Int32) × (Nat → Int32) × (Nat → Int32) × (Nat → Int32) => [(h0, oX3 bb hd bo (nI u.1) (nI u.2.1)), (hd, cA G 13 hf), (kc0, oX1 km0), (km0, iA G 36 u.2.2.1), (kc1, oX1 km1), (km1, iA G 36 u.2.2.2.1), (kc2, oX1 km2), (km2, iA G 36 u.2.2.2.2.1), (kc3, oX1 km3), (km3, iA G 36 u.2.2.2.2.2.1), (kc4, oX1 km4), (km4, iA G 36 u.2.2.2.2.2.2.1), (kc5, oX1 km5), (km5, iA G 36 u.2.2.2.2.2.2.2.1), (kc6, oX1 km6), (km6, iA G 36 u.2.2.2.2.2.2.2.2.1), (kc7, oX1 km7), (km7, iA G 36 u.2.2.2.2.2.2.2.2.2.1), (kc8, oX1 km8), (km8, iA G 36 u.2.2.2.2.2.2.2.2.2.2.1), (kc9, oX1 km9), (km9, iA G 36 u.2.2.2.2.2.2.2.2.2.2.2.1), (kc10, oX1 km10), (km10, iA G 36 u.2.2.2.2.2.2.2.2.2.2.2.2.1), (kc11, oX1 km11), (km11, iA G 36 u.2.2.2.2.2.2.2.2.2.2.2.2.2.1), (kc12, oX1 km12), (km12, iA G 36 u.2.2.2.2.2.2.2.2.2.2.2.2.2.2), (bb, oX0 bpersons bpapers bstamps bversions blines bsteps bsayings bfindings bwarnings bquestions td vd vl gp), (bstamps, oX8 24 3 bstampsc (nI kbstamps)), (bstampsc, iA G 72 fbstamps)])) : K_c_searchX_step l G mn V9 B9 h0 jw jc lv bb hd bo jl jb hf kc0 km0 fk0 kc1 km1 fk1 kc2 km2 fk2 kc3 km3 fk3 kc4 km4 fk4 kc5 km5 fk5 kc6 km6 fk6 kc7 km7 fk7 kc8 km8 fk8 kc9 km9 fk9 kc10 km10 fk10 kc11 km11 fk11 kc12 km12 fk12 bpersons bpapers bstamps bversions blines bsteps bsayings bfindings bwarnings bquestions td vd vl gp bstampsc kbstamps fbstamps := by
  refine MV.start (by decide +kernel) (Nat.le_of_ble_eq_true rfl) ?_
  intro p e s m below meth c A ls hC hK hP hD hS hA hl
  refine absQ (fun Q0 hQ0 => ?_)
  have hl : lv_has ls 6 [(0, .ref h0), (1, .int (nI mn - 1)), (2, .int (nI jw)), (3, .int (nI jc)), (4, .int (nI lv))] := hl
  refine Kan8 hC (fun hx hb hr hml hB hown hlocks hnm => ?_)
  refine lv_iload_n hx hb gX3_search_0.1 rfl (lv_at3 hl) ?_
  refine lv_aload_n hx hb gX3_search_0.2.1 rfl (lv_at0 hl) ?_
  refine gf_X3_26 hC rfl hK hP 0 rfl rfl gX3_search_0.2.2.1 ?_
  refine lv_icmp_lt (tgt := 9) hx hb gX3_search_0.2.2.2.1 (by decide) (fun c_5_2980 => ?_) (fun c_5_2980 => ?_)
  · refine lv_iload_n hx hb gX3_search_0.2.2.2.2.2.1 rfl (lv_at1 hl) ?_
    refine lv_istore (lv' := [(5, .int (nI mn - 1)), (0, .ref h0), (1, .int (nI mn - 1)), (2, .int (nI jw)), (3, .int (nI jc)), (4, .int (nI lv))]) hx hb gX3_search_0.2.2.2.2.2.2.1 hl (by decide) rfl (fun ls hl => ?_)
    have keyJ : ∀ (j : Nat), j ≤ mn → ∀ (ls : Array Slot), WST B9 j jw → CLB (KHL fbstamps B9 gp.toInt kbstamps j jw) (MAT (MGT [fk0, fk1, fk2, fk3, fk4, fk5, fk6, fk7, fk8, fk9, fk10, fk11, fk12] lv)) → (∀ W9, TRE B9 mn jw W9 ↔ TRE B9 j jw W9) → lv_has ls 6 [(5, .int (nI j - 1)), (0, .ref h0), (1, .int (nI mn - 1)), (2, .int (nI jw)), (3, .int (nI jc)), (4, .int (nI lv))] → W p l e (RM (6 + 2 * mn) 0 0) s m ([.ref h0, .int (nI mn - 1), .int (nI jw), .int (nI jc), .int (nI lv)] : List Value).toArray below meth c s.heap [] 0 0 Q0 (F0 m 12 ls []) := by
      intro j
      induction j with
      | zero =>
        intro hj ls hw9 hk9 ht9 hl
        have hl : lv_has ls 6 [(5, .int (-1)), (0, .ref h0), (1, .int (nI mn - 1)), (2, .int (nI jw)), (3, .int (nI jc)), (4, .int (nI lv))] := hl
        refine lv_iload hx hb gX3_search_0.2.2.2.2.2.2.2.1 (lv_at0 hl) ?_
        refine lv_if_lt (tgt := 35) hx hb gX3_search_0.2.2.2.2.2.2.2.2.1 (by decide) (fun _ => ?_) (fun c9 => absurd (by decide) c9)
        refine lv_iload hx hb gX3_search_1.2.2.2.2.2.2.1 (lv_at0 hl) ?_
        refine lv_if_ge (tgt := 53) hx hb gX3_search_1.2.2.2.2.2.2.2.1 (by decide) (fun c9 => absurd c9 (by decide)) (fun _ => ?_)
        refine lv_aload_n hx hb gX3_search_1.2.2.2.2.2.2.2.2.1 rfl (lv_at1 hl) ?_
        refine lv_iload_n hx hb gX3_search_1.2.2.2.2.2.2.2.2.2 rfl (lv_at4 hl) ?_
        refine pf_X3_26 hC rfl hK hP hD hS 0 (ws' := [(h0, oX3 bb hd bo (nI jc) (nI jb)), (hd, cA G 13 hf), (kc0, oX1 km0), (km0, iA G 36 fk0), (kc1, oX1 km1), (km1, iA G 36 fk1), (kc2, oX1 km2), (km2, iA G 36 fk2), (kc3, oX1 km3), (km3, iA G 36 fk3), (kc4, oX1 km4), (km4, iA G 36 fk4), (kc5, oX1 km5), (km5, iA G 36 fk5), (kc6, oX1 km6), (km6, iA G 36 fk6), (kc7, oX1 km7), (km7, iA G 36 fk7), (kc8, oX1 km8), (km8, iA G 36 fk8), (kc9, oX1 km9), (km9, iA G 36 fk9), (kc10, oX1 km10), (km10, iA G 36 fk10), (kc11, oX1 km11), (km11, iA G 36 fk11), (kc12, oX1 km12), (km12, iA G 36 fk12), (bb, oX0 bpersons bpapers bstamps bversions blines bsteps bsayings bfindings bwarnings bquestions td vd vl gp), (bstamps, oX8 24 3 bstampsc (nI kbstamps)), (bstampsc, iA G 72 fbstamps)]) rfl (Nat.le_of_ble_eq_true rfl) rfl rfl rfl gX3_search_2.1 (fun H locs hP hD hS => ?_)
        refine lv_aload_n hx hb gX3_search_2.2.1 rfl (lv_at1 hl) ?_
        refine lv_iload_n hx hb gX3_search_2.2.2.1 rfl (lv_at3 hl) ?_
        refine pf_X3_29 hC rfl hK hP hD hS 0 (ws' := [(h0, oX3 bb hd bo (nI jc) (nI jw)), (hd, cA G 13 hf), (kc0, oX1 km0), (km0, iA G 36 fk0), (kc1, oX1 km1), (km1, iA G 36 fk1), (kc2, oX1 km2), (km2, iA G 36 fk2), (kc3, oX1 km3), (km3, iA G 36 fk3), (kc4, oX1 km4), (km4, iA G 36 fk4), (kc5, oX1 km5), (km5, iA G 36 fk5), (kc6, oX1 km6), (km6, iA G 36 fk6), (kc7, oX1 km7), (km7, iA G 36 fk7), (kc8, oX1 km8), (km8, iA G 36 fk8), (kc9, oX1 km9), (km9, iA G 36 fk9), (kc10, oX1 km10), (km10, iA G 36 fk10), (kc11, oX1 km11), (km11, iA G 36 fk11), (kc12, oX1 km12), (km12, iA G 36 fk12), (bb, oX0 bpersons bpapers bstamps bversions blines bsteps bsayings bfindings bwarnings bquestions td vd vl gp), (bstamps, oX8 24 3 bstampsc (nI kbstamps)), (bstampsc, iA G 72 fbstamps)]) rfl (Nat.le_of_ble_eq_true rfl) rfl rfl rfl gX3_search_2.2.2.2.1 (fun H locs hP hD hS => ?_)
        refine lv_goto (tgt := 63) hx hb gX3_search_2.2.2.2.2.1 (by decide) ?_
        refine toQ hQ0 ?_
        exact RV hC hP hD hS [0, 1, 2, 3, 4, 5, 6, 7, 8, 9, 10, 11, 12, 13, 14, 15, 16, 17, 18, 19, 20, 21, 22, 23, 24, 25, 26, 27, 28, 29, 30] (jc, jw, fk0, fk1, fk2, fk3, fk4, fk5, fk6, fk7, fk8, fk9, fk10, fk11, fk12) rfl rfl (by decide) (⟨RES.cg ht9 (by have h6 := (nI_ltI (a := jc) (b := jl) (by have := PCN.top (w := jw) 12; omega) (by omega)).mp c_5_2980; rw [hCT] at h6 ⊢; exact RES.leaf (fun W9 => TRE.one hw9) (KHL.leaf hSV hBV hVB hk9) h6), MKP.rf⟩) gX3_search_3.2
      | succ j ihJ =>
        intro hj ls hw9 hk9 ht9 hl
        have hl : lv_has ls 6 [(5, .int (nI j)), (0, .ref h0), (1, .int (nI mn - 1)), (2, .int (nI jw)), (3, .int (nI jc)), (4, .int (nI lv))] := by rw [nI_sub1] at hl; exact hl
        refine lv_iload hx hb gX3_search_0.2.2.2.2.2.2.2.1 (lv_at0 hl) ?_
        refine lv_if_lt (tgt := 35) hx hb gX3_search_0.2.2.2.2.2.2.2.2.1 (by decide) (fun c9 => absurd c9 (nI_pos (by omega))) (fun _ => ?_)
        refine lv_aload_n hx hb gX3_search_0.2.2.2.2.2.2.2.2.2 rfl (lv_at1 hl) ?_
        refine gf_X3_22 hC rfl hK hP 0 rfl rfl gX3_search_1.1 ?_
        refine lv_iload hx hb gX3_search_1.2.1 (lv_at0 hl) ?_
        refine pSN hC hK hl (c_hasBit l G bo (nI j)) si_X3_44 rfl rfl (Nat.le_of_ble_eq_true rfl) ⟨by simp only [RM]; omega, by simp only [RM]; omega⟩ ⟨by first | exact Nat.le_of_ble_eq_true rfl | exact Nat.zero_le _, by first | exact Nat.le_of_ble_eq_true rfl | exact Nat.zero_le _⟩ gX3_search_1.2.2.1 (Kors (Keqa fun a2982 => ?_) (Keqa fun a2982 => ?_))
        · refine lv_if_ne (tgt := 35) hx hb gX3_search_1.2.2.2.1 (by decide) (fun _ => ?_) (fun c9 => absurd c9 (by decide))
          refine lv_iload hx hb gX3_search_1.2.2.2.2.2.2.1 (lv_at0 hl) ?_
          refine lv_if_ge (tgt := 53) hx hb gX3_search_1.2.2.2.2.2.2.2.1 (by decide) (fun _ => ?_) (fun c9 => absurd (nI_pos' (by omega)) c9)
          refine lv_aload_n hx hb gX3_search_2.2.2.2.2.2.1 rfl (lv_at1 hl) ?_
          refine lv_iload hx hb gX3_search_2.2.2.2.2.2.2.1 (lv_at0 hl) ?_
          refine lv_iload_n hx hb gX3_search_2.2.2.2.2.2.2.2.1 rfl (lv_at3 hl) ?_
          refine lv_iload_n hx hb gX3_search_2.2.2.2.2.2.2.2.2.1 rfl (lv_at4 hl) ?_
          refine lv_iload hx hb gX3_search_2.2.2.2.2.2.2.2.2.2 (lv_at5 hl) ?_
          have hbj9 : B9 j := (hBB j (by omega)).mp a2982
          refine vV (wr := []) hC hK hl hP hD hS hA (c_holdDX l G mn j V9 B9 h0 jw jc lv bb hd bo jl jb hf kc0 km0 fk0 kc1 km1 fk1 kc2 km2 fk2 kc3 km3 fk3 kc4 km4 fk4 kc5 km5 fk5 kc6 km6 fk6 kc7 km7 fk7 kc8 km8 fk8 kc9 km9 fk9 kc10 km10 fk10 kc11 km11 fk11 kc12 km12 fk12 bpersons bpapers bstamps bversions blines bsteps bsayings bfindings bwarnings bquestions td vd vl gp bstampsc kbstamps fbstamps (by omega) hkbstamps (by omega) hh0 hh1 hh2 hh3 hh4 hh5 hh6 hh7 hh8 hh9 hh10 hh11 hh12 hSV hgp hBV hVB hBB hw9 hCT hk9 hjl hbj9 ihS) si_X3_59 [0, 1, 2, 3, 4, 5, 6, 7, 8, 9, 10, 11, 12, 13, 14, 15, 16, 17, 18, 19, 20, 21, 22, 23, 24, 25, 26, 27, 28, 29, 30] [] sm_0_1_2_3_4_5_6_7_8_9_10_11_12_13_14_15_16_17_18_19_20_21_22_23_24_25_26_27_28_29_30 fm_0_1_2_3_4_5_6_7_8_9_10_11_12_13_14_15_16_17_18_19_20_21_22_23_24_25_26_27_28_29_30 nd_0_1_2_3_4_5_6_7_8_9_10_11_12_13_14_15_16_17_18_19_20_21_22_23_24_25_26_27_28_29_30 rfl rfl (by decide) rfl rfl rfl rfl rfl (Nat.le_of_ble_eq_true rfl) ⟨by simp only [RM]; omega, by simp only [RM]; omega⟩ ⟨Nat.le_of_ble_eq_true rfl, Nat.le_of_ble_eq_true rfl⟩ gX3_search_3.1 (Ktu15 fun jl12985 jb12986 gk02987 gk12988 gk22989 gk32990 gk42991 gk52992 gk62993 gk72994 gk82995 gk92996 gk102997 gk112998 gk122999 => ?_)
          intro H locs hr2983 hP hD hS
          try dsimp only at hr2983
          refine Kpdr (ws := [(h0, oX3 bb hd bo (nI jl12985) (nI jb12986)), (hd, cA G 13 hf), (kc0, oX1 km0), (km0, iA G 36 gk02987), (kc1, oX1 km1), (km1, iA G 36 gk12988), (kc2, oX1 km2), (km2, iA G 36 gk22989), (kc3, oX1 km3), (km3, iA G 36 gk32990), (kc4, oX1 km4), (km4, iA G 36 gk42991), (kc5, oX1 km5), (km5, iA G 36 gk52992), (kc6, oX1 km6), (km6, iA G 36 gk62993), (kc7, oX1 km7), (km7, iA G 36 gk72994), (kc8, oX1 km8), (km8, iA G 36 gk82995), (kc9, oX1 km9), (km9, iA G 36 gk92996), (kc10, oX1 km10), (km10, iA G 36 gk102997), (kc11, oX1 km11), (km11, iA G 36 gk112998), (kc12, oX1 km12), (km12, iA G 36 gk122999), (bb, oX0 bpersons bpapers bstamps bversions blines bsteps bsayings bfindings bwarnings bquestions td vd vl gp), (bstamps, oX8 24 3 bstampsc (nI kbstamps)), (bstampsc, iA G 72 fbstamps)]) hP hD (fun hP hD => ?_)
          have w3000 := hr2983
          refine toQ hQ0 ?_
          exact RV hC hP hD hS [0, 1, 2, 3, 4, 5, 6, 7, 8, 9, 10, 11, 12, 13, 14, 15, 16, 17, 18, 19, 20, 21, 22, 23, 24, 25, 26, 27, 28, 29, 30] (jl12985, jb12986, gk02987, gk12988, gk22989, gk32990, gk42991, gk52992, gk62993, gk72994, gk82995, gk92996, gk102997, gk112998, gk122999) rfl rfl (by decide) (⟨RES.cg ht9 w3000.1, w3000.2⟩) gX3_search_3.2
        · refine lv_if_ne (tgt := 35) hx hb gX3_search_1.2.2.2.1 (by decide) (fun c9 => absurd (by decide) c9) (fun _ => ?_)
          refine lv_iinc (v := nI j - 1) (lv' := [(5, .int (nI j - 1)), (0, .ref h0), (1, .int (nI mn - 1)), (2, .int (nI jw)), (3, .int (nI jc)), (4, .int (nI lv))]) hx hb gX3_search_1.2.2.2.2.1 hl (k := 0) rfl (nI_dec _) (by decide) rfl (fun ls hl => ?_)
          refine lv_goto (tgt := 12) hx hb gX3_search_1.2.2.2.2.2.1 (by decide) ?_
          have hnb9 : ¬ B9 j := fun h9 => a2982 ((hBB j (by omega)).mpr h9)
          have hwj : jw.testBit j = false := hw9.2.1 j (by omega)
          exact ihJ (by omega) _ hw9.dn (by rw [KHL.skip hSV hnb9]; exact hk9) (fun W9 => (ht9 W9).trans (TRE.skip hwj hnb9 (by omega))) (lv_sub hl [0, 1, 2, 3, 4, 5] rfl)
    exact keyJ mn (Nat.le_refl mn) _ hWS hKH (fun _ => Iff.rfl) hl
  · refine toQ hQ0 ?_
    exact RV hC hP hD hS [0, 1, 2, 3, 4, 5, 6, 7, 8, 9, 10, 11, 12, 13, 14, 15, 16, 17, 18, 19, 20, 21, 22, 23, 24, 25, 26, 27, 28, 29, 30] (jl, jb, fk0, fk1, fk2, fk3, fk4, fk5, fk6, fk7, fk8, fk9, fk10, fk11, fk12) rfl rfl (by decide) (⟨RES.none (fun W9 h8 _ => by have h7 := TRE.cnt hWS h8; have h6 := nlt_nat (R := jl) (k := jc) (by omega) (by have := PCN.top (w := jw) 12; omega) c_5_2980; omega), MKP.rf⟩) gX3_search_0.2.2.2.2.1
theorem c_searchX (l : Launch) (G : GG) : ∀ (mn : Nat), mn ≤ 12 → ∀ (V9 : Nat → Prop) (B9 : Nat → Prop) (h0 : Nat) (jw : Nat) (jc : Nat) (lv : Nat) (bb : Nat) (hd : Nat) (bo : Int32) (jl : Nat) (jb : Nat) (hf : Nat → Option Nat) (kc0 : Nat) (km0 : Nat) (fk0 : Nat → Int32) (kc1 : Nat) (km1 : Nat) (fk1 : Nat → Int32) (kc2 : Nat) (km2 : Nat) (fk2 : Nat → Int32) (kc3 : Nat) (km3 : Nat) (fk3 : Nat → Int32) (kc4 : Nat) (km4 : Nat) (fk4 : Nat → Int32) (kc5 : Nat) (km5 : Nat) (fk5 : Nat → Int32) (kc6 : Nat) (km6 : Nat) (fk6 : Nat → Int32) (kc7 : Nat) (km7 : Nat) (fk7 : Nat → Int32) (kc8 : Nat) (km8 : Nat) (fk8 : Nat → Int32) (kc9 : Nat) (km9 : Nat) (fk9 : Nat → Int32) (kc10 : Nat) (km10 : Nat) (fk10 : Nat → Int32) (kc11 : Nat) (km11 : Nat) (fk11 : Nat → Int32) (kc12 : Nat) (km12 : Nat) (fk12 : Nat → Int32) (bpersons : Nat) (bpapers : Nat) (bstamps : Nat) (bversions : Nat) (blines : Nat) (bsteps : Nat) (bsayings : Nat) (bfindings : Nat) (bwarnings : Nat) (bquestions : Nat) (td : Int32) (vd : Int32) (vl : Int32) (gp : Int32) (bstampsc : Nat) (kbstamps : Nat) (fbstamps : Nat → Int32) (hkbstamps : kbstamps ≤ 24) (hlv : lv + mn ≤ 12) (hh0 : hf 0 = some kc0) (hh1 : hf 1 = some kc1) (hh2 : hf 2 = some kc2) (hh3 : hf 3 = some kc3) (hh4 : hf 4 = some kc4) (hh5 : hf 5 = some kc5) (hh6 : hf 6 = some kc6) (hh7 : hf 7 = some kc7) (hh8 : hf 8 = some kc8) (hh9 : hf 9 = some kc9) (hh10 : hf 10 = some kc10) (hh11 : hf 11 = some kc11) (hh12 : hf 12 = some kc12) (hSV : SVL fbstamps kbstamps) (hgp : GPR gp) (hBV : ∀ p, B9 p → V9 p) (hVB : ∀ p, p < 12 → MST fbstamps kbstamps p → V9 p → B9 p) (hBB : ∀ p, p < 12 → (HB bo (nI p) ↔ B9 p)) (hWS : WST B9 mn jw) (hCT : jc = PCN jw 12) (hKH : CLB (KHL fbstamps B9 gp.toInt kbstamps mn jw) (MAT (MGT [fk0, fk1, fk2, fk3, fk4, fk5, fk6, fk7, fk8, fk9, fk10, fk11, fk12] lv))) (hjl : jl ≤ 13), MV l G yX3_search cX3_search 6 (6 + 2 * mn) 0 0 [.ref h0, .int (nI mn - 1), .int (nI jw), .int (nI jc), .int (nI lv)] [(h0, oX3 bb hd bo (nI jl) (nI jb)), (hd, cA G 13 hf), (kc0, oX1 km0), (km0, iA G 36 fk0), (kc1, oX1 km1), (km1, iA G 36 fk1), (kc2, oX1 km2), (km2, iA G 36 fk2), (kc3, oX1 km3), (km3, iA G 36 fk3), (kc4, oX1 km4), (km4, iA G 36 fk4), (kc5, oX1 km5), (km5, iA G 36 fk5), (kc6, oX1 km6), (km6, iA G 36 fk6), (kc7, oX1 km7), (km7, iA G 36 fk7), (kc8, oX1 km8), (km8, iA G 36 fk8), (kc9, oX1 km9), (km9, iA G 36 fk9), (kc10, oX1 km10), (km10, iA G 36 fk10), (kc11, oX1 km11), (km11, iA G 36 fk11), (kc12, oX1 km12), (km12, iA G 36 fk12), (bb, oX0 bpersons bpapers bstamps bversions blines bsteps bsayings bfindings bwarnings bquestions td vd vl gp), (bstamps, oX8 24 3 bstampsc (nI kbstamps)), (bstampsc, iA G 72 fbstamps)] (fun u : Nat × Nat × (Nat → Int32) × (Nat → Int32) × (Nat → Int32) × (Nat → Int32) × (Nat → Int32) × (Nat → Int32) × (Nat → Int32) × (Nat → Int32) × (Nat → Int32) × (Nat → Int32) × (Nat → Int32) × (Nat → Int32) × (Nat → Int32) => RES (TRE B9 mn jw) (GDW fbstamps V9 gp.toInt kbstamps) jl jb u.1 u.2.1 ∧ MKP [fk0, fk1, fk2, fk3, fk4, fk5, fk6, fk7, fk8, fk9, fk10, fk11, fk12] [u.2.2.1, u.2.2.2.1, u.2.2.2.2.1, u.2.2.2.2.2.1, u.2.2.2.2.2.2.1, u.2.2.2.2.2.2.2.1, u.2.2.2.2.2.2.2.2.1, u.2.2.2.2.2.2.2.2.2.1, u.2.2.2.2.2.2.2.2.2.2.1, u.2.2.2.2.2.2.2.2.2.2.2.1, u.2.2.2.2.2.2.2.2.2.2.2.2.1, u.2.2.2.2.2.2.2.2.2.2.2.2.2.1, u.2.2.2.2.2.2.2.2.2.2.2.2.2.2] lv) (fun u : Nat × Nat × (Nat → Int32) × (Nat → Int32) × (Nat → Int32) × (Nat → Int32) × (Nat → Int32) × (Nat → Int32) × (Nat → Int32) × (Nat → Int32) × (Nat → Int32) × (Nat → Int32) × (Nat → Int32) × (Nat → Int32) × (Nat → Int32) => [(h0, oX3 bb hd bo (nI u.1) (nI u.2.1)), (hd, cA G 13 hf), (kc0, oX1 km0), (km0, iA G 36 u.2.2.1), (kc1, oX1 km1), (km1, iA G 36 u.2.2.2.1), (kc2, oX1 km2), (km2, iA G 36 u.2.2.2.2.1), (kc3, oX1 km3), (km3, iA G 36 u.2.2.2.2.2.1), (kc4, oX1 km4), (km4, iA G 36 u.2.2.2.2.2.2.1), (kc5, oX1 km5), (km5, iA G 36 u.2.2.2.2.2.2.2.1), (kc6, oX1 km6), (km6, iA G 36 u.2.2.2.2.2.2.2.2.1), (kc7, oX1 km7), (km7, iA G 36 u.2.2.2.2.2.2.2.2.2.1), (kc8, oX1 km8), (km8, iA G 36 u.2.2.2.2.2.2.2.2.2.2.1), (kc9, oX1 km9), (km9, iA G 36 u.2.2.2.2.2.2.2.2.2.2.2.1), (kc10, oX1 km10), (km10, iA G 36 u.2.2.2.2.2.2.2.2.2.2.2.2.1), (kc11, oX1 km11), (km11, iA G 36 u.2.2.2.2.2.2.2.2.2.2.2.2.2.1), (kc12, oX1 km12), (km12, iA G 36 u.2.2.2.2.2.2.2.2.2.2.2.2.2.2), (bb, oX0 bpersons bpapers bstamps bversions blines bsteps bsayings bfindings bwarnings bquestions td vd vl gp), (bstamps, oX8 24 3 bstampsc (nI kbstamps)), (bstampsc, iA G 72 fbstamps)]) := by
  intro mn
  induction mn using Nat.strongRecOn with
  | ind mn ih =>
    intro hm V9 B9 h0 jw jc lv bb hd bo jl jb hf kc0 km0 fk0 kc1 km1 fk1 kc2 km2 fk2 kc3 km3 fk3 kc4 km4 fk4 kc5 km5 fk5 kc6 km6 fk6 kc7 km7 fk7 kc8 km8 fk8 kc9 km9 fk9 kc10 km10 fk10 kc11 km11 fk11 kc12 km12 fk12 bpersons bpapers bstamps bversions blines bsteps bsayings bfindings bwarnings bquestions td vd vl gp bstampsc kbstamps fbstamps hkbstamps hlv hh0 hh1 hh2 hh3 hh4 hh5 hh6 hh7 hh8 hh9 hh10 hh11 hh12 hSV hgp hBV hVB hBB hWS hCT hKH hjl
    exact c_searchX_step l G mn V9 B9 h0 jw jc lv bb hd bo jl jb hf kc0 km0 fk0 kc1 km1 fk1 kc2 km2 fk2 kc3 km3 fk3 kc4 km4 fk4 kc5 km5 fk5 kc6 km6 fk6 kc7 km7 fk7 kc8 km8 fk8 kc9 km9 fk9 kc10 km10 fk10 kc11 km11 fk11 kc12 km12 fk12 bpersons bpapers bstamps bversions blines bsteps bsayings bfindings bwarnings bquestions td vd vl gp bstampsc kbstamps fbstamps hm hkbstamps hlv hh0 hh1 hh2 hh3 hh4 hh5 hh6 hh7 hh8 hh9 hh10 hh11 hh12 hSV hgp hBV hVB hBB hWS hCT hKH hjl (fun m9 h9 => ih m9 h9 (by omega))
def K_c_fewestX (l : Launch) (G : GG) (h0 : Nat) (pp : Int32) (bb : Nat) (hd : Nat) (bo : Int32) (le : Int32) (bi : Int32) (hf : Nat → Option Nat) (kc0 : Nat) (km0 : Nat) (fk0 : Nat → Int32) (kc1 : Nat) (km1 : Nat) (fk1 : Nat → Int32) (kc2 : Nat) (km2 : Nat) (fk2 : Nat → Int32) (kc3 : Nat) (km3 : Nat) (fk3 : Nat → Int32) (kc4 : Nat) (km4 : Nat) (fk4 : Nat → Int32) (kc5 : Nat) (km5 : Nat) (fk5 : Nat → Int32) (kc6 : Nat) (km6 : Nat) (fk6 : Nat → Int32) (kc7 : Nat) (km7 : Nat) (fk7 : Nat → Int32) (kc8 : Nat) (km8 : Nat) (fk8 : Nat → Int32) (kc9 : Nat) (km9 : Nat) (fk9 : Nat → Int32) (kc10 : Nat) (km10 : Nat) (fk10 : Nat → Int32) (kc11 : Nat) (km11 : Nat) (fk11 : Nat → Int32) (kc12 : Nat) (km12 : Nat) (fk12 : Nat → Int32) (bpersons : Nat) (bpapers : Nat) (bstamps : Nat) (bversions : Nat) (blines : Nat) (bsteps : Nat) (bsayings : Nat) (bfindings : Nat) (bwarnings : Nat) (bquestions : Nat) (td : Int32) (vd : Int32) (vl : Int32) (gp : Int32) (bstampsc : Nat) (kbstamps : Nat) (fbstamps : Nat → Int32) (bpapersc : Nat) (kbpapers : Nat) (fbpapers : Nat → Int32) : Prop := MI l G yX3_fewest cX3_fewest 3 (some .int) 40 0 0 [.ref h0, .int pp] [(h0, oX3 bb hd bo le bi), (hd, cA G 13 hf), (kc0, oX1 km0), (km0, iA G 36 fk0), (kc1, oX1 km1), (km1, iA G 36 fk1), (kc2, oX1 km2), (km2, iA G 36 fk2), (kc3, oX1 km3), (km3, iA G 36 fk3), (kc4, oX1 km4), (km4, iA G 36 fk4), (kc5, oX1 km5), (km5, iA G 36 fk5), (kc6, oX1 km6), (km6, iA G 36 fk6), (kc7, oX1 km7), (km7, iA G 36 fk7), (kc8, oX1 km8), (km8, iA G 36 fk8), (kc9, oX1 km9), (km9, iA G 36 fk9), (kc10, oX1 km10), (km10, iA G 36 fk10), (kc11, oX1 km11), (km11, iA G 36 fk11), (kc12, oX1 km12), (km12, iA G 36 fk12), (bb, oX0 bpersons bpapers bstamps bversions blines bsteps bsayings bfindings bwarnings bquestions td vd vl gp), (bstamps, oX8 24 3 bstampsc (nI kbstamps)), (bstampsc, iA G 72 fbstamps), (bpapers, oX8 12 6 bpapersc (nI kbpapers)), (bpapersc, iA G 72 fbpapers)] (fun (r : Int32) (u : Int32 × Int32 × (Nat → Int32) × (Nat → Int32) × (Nat → Int32) × (Nat → Int32) × (Nat → Int32) × (Nat → Int32) × (Nat → Int32) × (Nat → Int32) × (Nat → Int32) × (Nat → Int32) × (Nat → Int32) × (Nat → Int32) × (Nat → Int32) × Int32) => (∃ W9, (DBQ fbstamps (VPP pp) (BDB fbstamps kbstamps pp) gp.toInt kbstamps W9) ∧ r = nI W9)) (fun u : Int32 × Int32 × (Nat → Int32) × (Nat → Int32) × (Nat → Int32) × (Nat → Int32) × (Nat → Int32) × (Nat → Int32) × (Nat → Int32) × (Nat → Int32) × (Nat → Int32) × (Nat → Int32) × (Nat → Int32) × (Nat → Int32) × (Nat → Int32) × Int32 => [(h0, oX3 bb hd u.2.2.2.2.2.2.2.2.2.2.2.2.2.2.2 u.1 u.2.1), (hd, cA G 13 hf), (kc0, oX1 km0), (km0, iA G 36 u.2.2.1), (kc1, oX1 km1), (km1, iA G 36 u.2.2.2.1), (kc2, oX1 km2), (km2, iA G 36 u.2.2.2.2.1), (kc3, oX1 km3), (km3, iA G 36 u.2.2.2.2.2.1), (kc4, oX1 km4), (km4, iA G 36 u.2.2.2.2.2.2.1), (kc5, oX1 km5), (km5, iA G 36 u.2.2.2.2.2.2.2.1), (kc6, oX1 km6), (km6, iA G 36 u.2.2.2.2.2.2.2.2.1), (kc7, oX1 km7), (km7, iA G 36 u.2.2.2.2.2.2.2.2.2.1), (kc8, oX1 km8), (km8, iA G 36 u.2.2.2.2.2.2.2.2.2.2.1), (kc9, oX1 km9), (km9, iA G 36 u.2.2.2.2.2.2.2.2.2.2.2.1), (kc10, oX1 km10), (km10, iA G 36 u.2.2.2.2.2.2.2.2.2.2.2.2.1), (kc11, oX1 km11), (km11, iA G 36 u.2.2.2.2.2.2.2.2.2.2.2.2.2.1), (kc12, oX1 km12), (km12, iA G 36 u.2.2.2.2.2.2.2.2.2.2.2.2.2.2.1), (bb, oX0 bpersons bpapers bstamps bversions blines bsteps bsayings bfindings bwarnings bquestions td vd vl gp), (bstamps, oX8 24 3 bstampsc (nI kbstamps)), (bstampsc, iA G 72 fbstamps), (bpapers, oX8 12 6 bpapersc (nI kbpapers)), (bpapersc, iA G 72 fbpapers)])
set_option maxHeartbeats 4000000 in
set_option maxRecDepth 100000 in
theorem c_fewestX (l : Launch) (G : GG) (h0 : Nat) (pp : Int32) (bb : Nat) (hd : Nat) (bo : Int32) (le : Int32) (bi : Int32) (hf : Nat → Option Nat) (kc0 : Nat) (km0 : Nat) (fk0 : Nat → Int32) (kc1 : Nat) (km1 : Nat) (fk1 : Nat → Int32) (kc2 : Nat) (km2 : Nat) (fk2 : Nat → Int32) (kc3 : Nat) (km3 : Nat) (fk3 : Nat → Int32) (kc4 : Nat) (km4 : Nat) (fk4 : Nat → Int32) (kc5 : Nat) (km5 : Nat) (fk5 : Nat → Int32) (kc6 : Nat) (km6 : Nat) (fk6 : Nat → Int32) (kc7 : Nat) (km7 : Nat) (fk7 : Nat → Int32) (kc8 : Nat) (km8 : Nat) (fk8 : Nat → Int32) (kc9 : Nat) (km9 : Nat) (fk9 : Nat → Int32) (kc10 : Nat) (km10 : Nat) (fk10 : Nat → Int32) (kc11 : Nat) (km11 : Nat) (fk11 : Nat → Int32) (kc12 : Nat) (km12 : Nat) (fk12 : Nat → Int32) (bpersons : Nat) (bpapers : Nat) (bstamps : Nat) (bversions : Nat) (blines : Nat) (bsteps : Nat) (bsayings : Nat) (bfindings : Nat) (bwarnings : Nat) (bquestions : Nat) (td : Int32) (vd : Int32) (vl : Int32) (gp : Int32) (bstampsc : Nat) (kbstamps : Nat) (fbstamps : Nat → Int32) (bpapersc : Nat) (kbpapers : Nat) (fbpapers : Nat → Int32) (hkbstamps : kbstamps ≤ 24) (hkbpapers : kbpapers ≤ 12) (hh0 : hf 0 = some kc0) (hh1 : hf 1 = some kc1) (hh2 : hf 2 = some kc2) (hh3 : hf 3 = some kc3) (hh4 : hf 4 = some kc4) (hh5 : hf 5 = some kc5) (hh6 : hf 6 = some kc6) (hh7 : hf 7 = some kc7) (hh8 : hf 8 = some kc8) (hh9 : hf 9 = some kc9) (hh10 : hf 10 = some kc10) (hh11 : hf 11 = some kc11) (hh12 : hf 12 = some kc12) (hSV : SVL fbstamps kbstamps) (hgp : GPR gp) (hPK : ∀ p, p < 12 → HB pp (nI p) → p < kbpapers) : K_c_fewestX l G h0 pp bb hd bo le bi hf kc0 km0 fk0 kc1 km1 fk1 kc2 km2 fk2 kc3 km3 fk3 kc4 km4 fk4 kc5 km5 fk5 kc6 km6 fk6 kc7 km7 fk7 kc8 km8 fk8 kc9 km9 fk9 kc10 km10 fk10 kc11 km11 fk11 kc12 km12 fk12 bpersons bpapers bstamps bversions blines bsteps bsayings bfindings bwarnings bquestions td vd vl gp bstampsc kbstamps fbstamps bpapersc kbpapers fbpapers := by
  refine MI.start (by decide +kernel) (Nat.le_of_ble_eq_true rfl) ?_
  intro p e s m below meth c A ls hC hK hP hD hS hA hl
  refine absQ (fun Q0 hQ0 => ?_)
  have hl : lv_has ls 3 [(0, .ref h0), (1, .int pp)] := hl
  refine Kan8 hC (fun hx hb hr hml hB hown hlocks hnm => ?_)
  refine lv_aload_n hx hb gX3_fewest_0.1 rfl (lv_at0 hl) ?_
  refine lv_iconst (v := 0) hx hb gX3_fewest_0.2.1 (by decide) ?_
  refine pf_X3_22 hC rfl hK hP hD hS 0 (ws' := [(h0, oX3 bb hd 0 le bi), (hd, cA G 13 hf), (kc0, oX1 km0), (km0, iA G 36 fk0), (kc1, oX1 km1), (km1, iA G 36 fk1), (kc2, oX1 km2), (km2, iA G 36 fk2), (kc3, oX1 km3), (km3, iA G 36 fk3), (kc4, oX1 km4), (km4, iA G 36 fk4), (kc5, oX1 km5), (km5, iA G 36 fk5), (kc6, oX1 km6), (km6, iA G 36 fk6), (kc7, oX1 km7), (km7, iA G 36 fk7), (kc8, oX1 km8), (km8, iA G 36 fk8), (kc9, oX1 km9), (km9, iA G 36 fk9), (kc10, oX1 km10), (km10, iA G 36 fk10), (kc11, oX1 km11), (km11, iA G 36 fk11), (kc12, oX1 km12), (km12, iA G 36 fk12), (bb, oX0 bpersons bpapers bstamps bversions blines bsteps bsayings bfindings bwarnings bquestions td vd vl gp), (bstamps, oX8 24 3 bstampsc (nI kbstamps)), (bstampsc, iA G 72 fbstamps), (bpapers, oX8 12 6 bpapersc (nI kbpapers)), (bpapersc, iA G 72 fbpapers)]) rfl (Nat.le_of_ble_eq_true rfl) rfl rfl rfl gX3_fewest_0.2.2.1 (fun H locs hP hD hS => ?_)
  refine lv_iconst (v := 0) hx hb gX3_fewest_0.2.2.2.1 (by decide) ?_
  refine lv_istore_n (lv' := [(2, .int 0), (0, .ref h0), (1, .int pp)]) hx hb gX3_fewest_0.2.2.2.2.1 rfl hl (by decide) rfl (fun ls hl => ?_)
  have keyP : ∀ (nP kP : Nat) (wbo : Int32) (H : Heap) (locs : List Loc) (ls : Array Slot), kP + nP = kbpapers → (wbo = nI (SOF (BDB fbstamps kbstamps pp) kP)) → va_PD G A [(h0, oX3 bb hd wbo le bi), (hd, cA G 13 hf), (kc0, oX1 km0), (km0, iA G 36 fk0), (kc1, oX1 km1), (km1, iA G 36 fk1), (kc2, oX1 km2), (km2, iA G 36 fk2), (kc3, oX1 km3), (km3, iA G 36 fk3), (kc4, oX1 km4), (km4, iA G 36 fk4), (kc5, oX1 km5), (km5, iA G 36 fk5), (kc6, oX1 km6), (km6, iA G 36 fk6), (kc7, oX1 km7), (km7, iA G 36 fk7), (kc8, oX1 km8), (km8, iA G 36 fk8), (kc9, oX1 km9), (km9, iA G 36 fk9), (kc10, oX1 km10), (km10, iA G 36 fk10), (kc11, oX1 km11), (km11, iA G 36 fk11), (kc12, oX1 km12), (km12, iA G 36 fk12), (bb, oX0 bpersons bpapers bstamps bversions blines bsteps bsayings bfindings bwarnings bquestions td vd vl gp), (bstamps, oX8 24 3 bstampsc (nI kbstamps)), (bstampsc, iA G 72 fbstamps), (bpapers, oX8 12 6 bpapersc (nI kbpapers)), (bpapersc, iA G 72 fbpapers)] H → va_S A s.heap H locs → lv_has ls 3 [(2, .int (nI kP)), (0, .ref h0), (1, .int pp)] → W p l e (RM 40 0 0) s m ([.ref h0, .int pp] : List Value).toArray below meth c H locs 0 0 Q0 (F0 m 7 ls []) := by
    intro nP
    induction nP with
    | zero =>
      intro kP wbo H locs ls hkP hwb hPD hS hl
      refine Kan2 hPD (fun hP hD => ?_)
      obtain rfl : kbpapers = kP := by omega
      have hl : lv_has ls 3 [(2, .int (nI kbpapers)), (0, .ref h0), (1, .int pp)] := hl
      refine lv_iload_n hx hb gX3_fewest_0.2.2.2.2.2.1 rfl (lv_at0 hl) ?_
      refine lv_aload_n hx hb gX3_fewest_0.2.2.2.2.2.2.1 rfl (lv_at1 hl) ?_
      refine gf_X3_17 hC rfl hK hP 0 rfl rfl gX3_fewest_0.2.2.2.2.2.2.2.1 ?_
      refine gf_X3_32 hC rfl hK hP 28 rfl rfl gX3_fewest_0.2.2.2.2.2.2.2.2.1 ?_
      refine pV hC hK hl hP hD (c_T_count l G bpapers 12 6 bpapersc kbpapers) si_X3_38 [31] sm_31 fm_31 nd_31 rfl rfl rfl rfl rfl (Nat.le_of_ble_eq_true rfl) rm_40_1_1 ⟨by first | exact Nat.le_of_ble_eq_true rfl | exact Nat.zero_le _, by first | exact Nat.le_of_ble_eq_true rfl | exact Nat.zero_le _⟩ gX3_fewest_0.2.2.2.2.2.2.2.2.2 (Keqr ?_)
      refine lv_icmp_ge (tgt := 59) hx hb gX3_fewest_1.1 (by decide) (fun _ => ?_) (fun c9 => absurd (Int32.le_refl _) c9)
      refine lv_aload_n hx hb gX3_fewest_3.2.1 rfl (lv_at1 hl) ?_
      refine lv_bipush (v := 13) hx hb gX3_fewest_3.2.2.1 (by decide) ?_
      refine pf_X3_26 hC rfl hK hP hD hS 0 (ws' := [(h0, oX3 bb hd wbo 13 bi), (hd, cA G 13 hf), (kc0, oX1 km0), (km0, iA G 36 fk0), (kc1, oX1 km1), (km1, iA G 36 fk1), (kc2, oX1 km2), (km2, iA G 36 fk2), (kc3, oX1 km3), (km3, iA G 36 fk3), (kc4, oX1 km4), (km4, iA G 36 fk4), (kc5, oX1 km5), (km5, iA G 36 fk5), (kc6, oX1 km6), (km6, iA G 36 fk6), (kc7, oX1 km7), (km7, iA G 36 fk7), (kc8, oX1 km8), (km8, iA G 36 fk8), (kc9, oX1 km9), (km9, iA G 36 fk9), (kc10, oX1 km10), (km10, iA G 36 fk10), (kc11, oX1 km11), (km11, iA G 36 fk11), (kc12, oX1 km12), (km12, iA G 36 fk12), (bb, oX0 bpersons bpapers bstamps bversions blines bsteps bsayings bfindings bwarnings bquestions td vd vl gp), (bstamps, oX8 24 3 bstampsc (nI kbstamps)), (bstampsc, iA G 72 fbstamps), (bpapers, oX8 12 6 bpapersc (nI kbpapers)), (bpapersc, iA G 72 fbpapers)]) rfl (Nat.le_of_ble_eq_true rfl) rfl rfl rfl gX3_fewest_3.2.2.2.1 (fun H locs hP hD hS => ?_)
      refine lv_aload_n hx hb gX3_fewest_3.2.2.2.2.1 rfl (lv_at1 hl) ?_
      refine lv_iconst (v := 0) hx hb gX3_fewest_3.2.2.2.2.2.1 (by decide) ?_
      refine pf_X3_29 hC rfl hK hP hD hS 0 (ws' := [(h0, oX3 bb hd wbo 13 0), (hd, cA G 13 hf), (kc0, oX1 km0), (km0, iA G 36 fk0), (kc1, oX1 km1), (km1, iA G 36 fk1), (kc2, oX1 km2), (km2, iA G 36 fk2), (kc3, oX1 km3), (km3, iA G 36 fk3), (kc4, oX1 km4), (km4, iA G 36 fk4), (kc5, oX1 km5), (km5, iA G 36 fk5), (kc6, oX1 km6), (km6, iA G 36 fk6), (kc7, oX1 km7), (km7, iA G 36 fk7), (kc8, oX1 km8), (km8, iA G 36 fk8), (kc9, oX1 km9), (km9, iA G 36 fk9), (kc10, oX1 km10), (km10, iA G 36 fk10), (kc11, oX1 km11), (km11, iA G 36 fk11), (kc12, oX1 km12), (km12, iA G 36 fk12), (bb, oX0 bpersons bpapers bstamps bversions blines bsteps bsayings bfindings bwarnings bquestions td vd vl gp), (bstamps, oX8 24 3 bstampsc (nI kbstamps)), (bstampsc, iA G 72 fbstamps), (bpapers, oX8 12 6 bpapersc (nI kbpapers)), (bpapersc, iA G 72 fbpapers)]) rfl (Nat.le_of_ble_eq_true rfl) rfl rfl rfl gX3_fewest_3.2.2.2.2.2.2.1 (fun H locs hP hD hS => ?_)
      refine lv_aload_n hx hb gX3_fewest_3.2.2.2.2.2.2.2.1 rfl (lv_at1 hl) ?_
      refine gf_X3_11 hC rfl hK hP 0 rfl rfl gX3_fewest_3.2.2.2.2.2.2.2.2.1 ?_
      refine lv_iconst (v := 0) hx hb gX3_fewest_3.2.2.2.2.2.2.2.2.2 (by decide) ?_
      refine aldC hC hK hP 1 rfl (vin (by decide +kernel)) (k := 0) (by decide +kernel) (v := kc0) (hh0) gX3_fewest_4.1 ?_
      refine vV (wr := [(h0, oX3 bb hd wbo 13 0), (hd, cA G 13 hf), (kc1, oX1 km1), (km1, iA G 36 fk1), (kc2, oX1 km2), (km2, iA G 36 fk2), (kc3, oX1 km3), (km3, iA G 36 fk3), (kc4, oX1 km4), (km4, iA G 36 fk4), (kc5, oX1 km5), (km5, iA G 36 fk5), (kc6, oX1 km6), (km6, iA G 36 fk6), (kc7, oX1 km7), (km7, iA G 36 fk7), (kc8, oX1 km8), (km8, iA G 36 fk8), (kc9, oX1 km9), (km9, iA G 36 fk9), (kc10, oX1 km10), (km10, iA G 36 fk10), (kc11, oX1 km11), (km11, iA G 36 fk11), (kc12, oX1 km12), (km12, iA G 36 fk12), (bb, oX0 bpersons bpapers bstamps bversions blines bsteps bsayings bfindings bwarnings bquestions td vd vl gp), (bstamps, oX8 24 3 bstampsc (nI kbstamps)), (bstampsc, iA G 72 fbstamps), (bpapers, oX8 12 6 bpapersc (nI kbpapers)), (bpapersc, iA G 72 fbpapers)]) hC hK hl hP hD hS hA (c_freeX l G kc0 km0 fk0) si_X3_52 [2, 3] [0, 1, 4, 5, 6, 7, 8, 9, 10, 11, 12, 13, 14, 15, 16, 17, 18, 19, 20, 21, 22, 23, 24, 25, 26, 27, 28, 29, 30, 31, 32] sm_2_3 fm_2_3 nd_2_3 sm_0_1_4_5_6_7_8_9_10_11_12_13_14_15_16_17_18_19_20_21_22_23_24_25_26_27_28_29_30_31_32 nd_0_1_4_5_6_7_8_9_10_11_12_13_14_15_16_17_18_19_20_21_22_23_24_25_26_27_28_29_30_31_32 dj_2_3__0_1_4_5_6_7_8_9_10_11_12_13_14_15_16_17_18_19_20_21_22_23_24_25_26_27_28_29_30_31_32 rfl rfl rfl rfl rfl (Nat.le_of_ble_eq_true rfl) rm_40_1_4 ⟨Nat.le_of_ble_eq_true rfl, Nat.le_of_ble_eq_true rfl⟩ gX3_fewest_4.2.1 (fun f13005 H locs hr3003 hP hD hS => ?_)
      try dsimp only at hr3003
      refine Kpdr (ws := [(h0, oX3 bb hd wbo 13 0), (hd, cA G 13 hf), (kc1, oX1 km1), (km1, iA G 36 fk1), (kc2, oX1 km2), (km2, iA G 36 fk2), (kc3, oX1 km3), (km3, iA G 36 fk3), (kc4, oX1 km4), (km4, iA G 36 fk4), (kc5, oX1 km5), (km5, iA G 36 fk5), (kc6, oX1 km6), (km6, iA G 36 fk6), (kc7, oX1 km7), (km7, iA G 36 fk7), (kc8, oX1 km8), (km8, iA G 36 fk8), (kc9, oX1 km9), (km9, iA G 36 fk9), (kc10, oX1 km10), (km10, iA G 36 fk10), (kc11, oX1 km11), (km11, iA G 36 fk11), (kc12, oX1 km12), (km12, iA G 36 fk12), (bb, oX0 bpersons bpapers bstamps bversions blines bsteps bsayings bfindings bwarnings bquestions td vd vl gp), (bstamps, oX8 24 3 bstampsc (nI kbstamps)), (bstampsc, iA G 72 fbstamps), (bpapers, oX8 12 6 bpapersc (nI kbpapers)), (bpapersc, iA G 72 fbpapers), (kc0, oX1 km0), (km0, iA G 36 f13005)]) hP hD (fun hP hD => ?_)
      have w3006 := hr3003
      refine lv_aload_n hx hb gX3_fewest_4.2.2.1 rfl (lv_at1 hl) ?_
      refine lv_bipush (v := 11) hx hb gX3_fewest_4.2.2.2.1 (by decide) ?_
      refine lv_iconst (v := 0) hx hb gX3_fewest_4.2.2.2.2.1 (by decide) ?_
      refine lv_iconst (v := 0) hx hb gX3_fewest_4.2.2.2.2.2.1 (by decide) ?_
      refine lv_iconst (v := 0) hx hb gX3_fewest_4.2.2.2.2.2.2.1 (by decide) ?_
      have hbb9 : ∀ p, p < 12 → (HB wbo (nI p) ↔ (BDB fbstamps kbstamps pp) p) := fun p9 h9 => by rw [hwb]; exact SOF.hb (by omega) h9 (fun h8 => hPK p9 h9 h8.1)
      have hkh9 : CLB (KHL fbstamps (BDB fbstamps kbstamps pp) gp.toInt kbstamps 12 0) (MAT (MGT [f13005, fk1, fk2, fk3, fk4, fk5, fk6, fk7, fk8, fk9, fk10, fk11, fk12] 0)) := by rw [KHL.base hSV]; exact ⟨w3006, BAS.kb⟩
      refine vV (wr := [(bpapers, oX8 12 6 bpapersc (nI kbpapers)), (bpapersc, iA G 72 fbpapers)]) hC hK hl hP hD hS hA (c_searchX l G 12 (by omega) (VPP pp) (BDB fbstamps kbstamps pp) h0 0 0 0 bb hd wbo 13 0 hf kc0 km0 f13005 kc1 km1 fk1 kc2 km2 fk2 kc3 km3 fk3 kc4 km4 fk4 kc5 km5 fk5 kc6 km6 fk6 kc7 km7 fk7 kc8 km8 fk8 kc9 km9 fk9 kc10 km10 fk10 kc11 km11 fk11 kc12 km12 fk12 bpersons bpapers bstamps bversions blines bsteps bsayings bfindings bwarnings bquestions td vd vl gp bstampsc kbstamps fbstamps hkbstamps (by omega) hh0 hh1 hh2 hh3 hh4 hh5 hh6 hh7 hh8 hh9 hh10 hh11 hh12 hSV hgp (fun _ h9 => h9.1) (fun _ _ h8 h9 => ⟨h9, h8⟩) hbb9 WST.zero (by decide +kernel) hkh9 (by omega)) si_X3_55 [0, 1, 31, 32, 2, 3, 4, 5, 6, 7, 8, 9, 10, 11, 12, 13, 14, 15, 16, 17, 18, 19, 20, 21, 22, 23, 24, 25, 26, 27, 28] [29, 30] sm_0_1_31_32_2_3_4_5_6_7_8_9_10_11_12_13_14_15_16_17_18_19_20_21_22_23_24_25_26_27_28 fm_0_1_31_32_2_3_4_5_6_7_8_9_10_11_12_13_14_15_16_17_18_19_20_21_22_23_24_25_26_27_28 nd_0_1_31_32_2_3_4_5_6_7_8_9_10_11_12_13_14_15_16_17_18_19_20_21_22_23_24_25_26_27_28 sm_29_30 nd_29_30 dj_0_1_31_32_2_3_4_5_6_7_8_9_10_11_12_13_14_15_16_17_18_19_20_21_22_23_24_25_26_27_28__29_30 rfl rfl rfl rfl rfl (Nat.le_of_ble_eq_true rfl) ⟨Nat.le_of_ble_eq_true rfl, Nat.le_of_ble_eq_true rfl⟩ ⟨Nat.le_of_ble_eq_true rfl, Nat.le_of_ble_eq_true rfl⟩ gX3_fewest_4.2.2.2.2.2.2.2.1 (Ktu15 fun jl13009 jb13010 gk03011 gk13012 gk23013 gk33014 gk43015 gk53016 gk63017 gk73018 gk83019 gk93020 gk103021 gk113022 gk123023 => ?_)
      intro H locs hr3007 hP hD hS
      try dsimp only at hr3007
      refine Kpdr (ws := [(bpapers, oX8 12 6 bpapersc (nI kbpapers)), (bpapersc, iA G 72 fbpapers), (h0, oX3 bb hd wbo (nI jl13009) (nI jb13010)), (hd, cA G 13 hf), (kc0, oX1 km0), (km0, iA G 36 gk03011), (kc1, oX1 km1), (km1, iA G 36 gk13012), (kc2, oX1 km2), (km2, iA G 36 gk23013), (kc3, oX1 km3), (km3, iA G 36 gk33014), (kc4, oX1 km4), (km4, iA G 36 gk43015), (kc5, oX1 km5), (km5, iA G 36 gk53016), (kc6, oX1 km6), (km6, iA G 36 gk63017), (kc7, oX1 km7), (km7, iA G 36 gk73018), (kc8, oX1 km8), (km8, iA G 36 gk83019), (kc9, oX1 km9), (km9, iA G 36 gk93020), (kc10, oX1 km10), (km10, iA G 36 gk103021), (kc11, oX1 km11), (km11, iA G 36 gk113022), (kc12, oX1 km12), (km12, iA G 36 gk123023), (bb, oX0 bpersons bpapers bstamps bversions blines bsteps bsayings bfindings bwarnings bquestions td vd vl gp), (bstamps, oX8 24 3 bstampsc (nI kbstamps)), (bstampsc, iA G 72 fbstamps)]) hP hD (fun hP hD => ?_)
      have w3024 := hr3007
      refine lv_aload_n hx hb gX3_fewest_4.2.2.2.2.2.2.2.2.1 rfl (lv_at1 hl) ?_
      refine gf_X3_29 hC rfl hK hP 2 rfl rfl gX3_fewest_4.2.2.2.2.2.2.2.2.2 ?_
      refine toQ hQ0 ?_
      exact RI (v := nI jb13010) hC hP hD hS [2, 3, 4, 5, 6, 7, 8, 9, 10, 11, 12, 13, 14, 15, 16, 17, 18, 19, 20, 21, 22, 23, 24, 25, 26, 27, 28, 29, 30, 31, 32, 0, 1] (nI jl13009, nI jb13010, gk03011, gk13012, gk23013, gk33014, gk43015, gk53016, gk63017, gk73018, gk83019, gk93020, gk103021, gk113022, gk123023, wbo) rfl rfl (by decide) (⟨_, DBQ.of hSV (fun _ _ h8 h9 => ⟨h9, h8⟩) (RES.cg (fun _ => TRE.all.symm) w3024.1), rfl⟩) rfl gX3_fewest_5
    | succ nP ihP =>
      intro kP wbo H locs ls hkP hwb hPD hS hl
      refine Kan2 hPD (fun hP hD => ?_)
      refine lv_iload_n hx hb gX3_fewest_0.2.2.2.2.2.1 rfl (lv_at0 hl) ?_
      refine lv_aload_n hx hb gX3_fewest_0.2.2.2.2.2.2.1 rfl (lv_at1 hl) ?_
      refine gf_X3_17 hC rfl hK hP 0 rfl rfl gX3_fewest_0.2.2.2.2.2.2.2.1 ?_
      refine gf_X3_32 hC rfl hK hP 28 rfl rfl gX3_fewest_0.2.2.2.2.2.2.2.2.1 ?_
      refine pV hC hK hl hP hD (c_T_count l G bpapers 12 6 bpapersc kbpapers) si_X3_38 [31] sm_31 fm_31 nd_31 rfl rfl rfl rfl rfl (Nat.le_of_ble_eq_true rfl) rm_40_1_1 ⟨by first | exact Nat.le_of_ble_eq_true rfl | exact Nat.zero_le _, by first | exact Nat.le_of_ble_eq_true rfl | exact Nat.zero_le _⟩ gX3_fewest_0.2.2.2.2.2.2.2.2.2 (Keqr ?_)
      refine lv_icmp_ge (tgt := 59) hx hb gX3_fewest_1.1 (by decide) (fun c9 => absurd c9 (nI_ge (a := kP) (b := kbpapers) (by omega) (by omega))) (fun _ => ?_)
      refine lv_iload_n hx hb gX3_fewest_1.2.1 rfl (lv_at2 hl) ?_
      refine lv_iload_n hx hb gX3_fewest_1.2.2.1 rfl (lv_at0 hl) ?_
      refine pSN hC hK hl (c_hasBit l G pp (nI kP)) si_X3_44 rfl rfl (Nat.le_of_ble_eq_true rfl) rm_40_1_2 ⟨by first | exact Nat.le_of_ble_eq_true rfl | exact Nat.zero_le _, by first | exact Nat.le_of_ble_eq_true rfl | exact Nat.zero_le _⟩ gX3_fewest_1.2.2.2.1 (Kors (Keqa fun a3028 => ?_) (Keqa fun a3028 => ?_))
      · refine lv_if_eq (tgt := 53) hx hb gX3_fewest_1.2.2.2.2.1 (by decide) (fun c9 => absurd c9 (by decide)) (fun _ => ?_)
        refine lv_aload_n hx hb gX3_fewest_1.2.2.2.2.2.1 rfl (lv_at1 hl) ?_
        refine gf_X3_17 hC rfl hK hP 0 rfl rfl gX3_fewest_1.2.2.2.2.2.2.1 ?_
        refine lv_iload_n hx hb gX3_fewest_1.2.2.2.2.2.2.2.1 rfl (lv_at0 hl) ?_
        refine pV hC hK hl hP hD (c_countStampsX l G bb (nI kP) bpersons bpapers bstamps bversions blines bsteps bsayings bfindings bwarnings bquestions td vd vl gp bstampsc kbstamps fbstamps (hkbstamps)) si_X3_48 [28, 29, 30] sm_28_29_30 fm_28_29_30 nd_28_29_30 rfl rfl rfl rfl rfl (Nat.le_of_ble_eq_true rfl) rm_40_3_4 ⟨by first | exact Nat.le_of_ble_eq_true rfl | exact Nat.zero_le _, by first | exact Nat.le_of_ble_eq_true rfl | exact Nat.zero_le _⟩ gX3_fewest_1.2.2.2.2.2.2.2.2.1 (Keqr ?_)
        refine lv_iconst (v := 1) hx hb gX3_fewest_1.2.2.2.2.2.2.2.2.2 (by decide) ?_
        refine lv_icmp_le (tgt := 53) hx hb gX3_fewest_2.1 (by decide) (fun c_38_3031 => ?_) (fun c_38_3031 => ?_)
        · refine lv_iinc (v := nI (kP + 1)) (lv' := [(2, .int (nI (kP + 1))), (0, .ref h0), (1, .int pp)]) hx hb gX3_fewest_2.2.2.2.2.2.2.2.2.2 hl (k := 0) rfl (nI_1 _) (by decide) rfl (fun ls hl => ?_)
          refine lv_goto (tgt := 7) hx hb gX3_fewest_3.1 (by decide) ?_
          have hst9 : wbo = nI (SOF (BDB fbstamps kbstamps pp) (kP + 1)) := by rw [hwb, SOF.n (B := (BDB fbstamps kbstamps pp)) (n := kP) (fun h9 => (MST.cnt (by omega)).mpr h9.2 c_38_3031)]
          exact ihP (kP + 1) wbo _ _ _ (by omega) (by first | assumption | exact Or.inl rfl | exact Or.inr rfl | exact rfl) (And.intro hP hD) hS (lv_sub hl [0, 1, 2] rfl)
        · refine lv_aload_n hx hb gX3_fewest_2.2.1 rfl (lv_at1 hl) ?_
          refine lv_dup hx hb gX3_fewest_2.2.2.1 rfl ?_
          refine gf_X3_22 hC rfl hK hP 0 rfl rfl gX3_fewest_2.2.2.2.1 ?_
          refine lv_iconst (v := 1) hx hb gX3_fewest_2.2.2.2.2.1 (by decide) ?_
          refine lv_iload_n hx hb gX3_fewest_2.2.2.2.2.2.1 rfl (lv_at0 hl) ?_
          refine lv_ishl hx hb gX3_fewest_2.2.2.2.2.2.2.1 ?_
          refine lv_ior hx hb gX3_fewest_2.2.2.2.2.2.2.2.1 ?_
          refine pf_X3_22 hC rfl hK hP hD hS 0 (ws' := [(h0, oX3 bb hd (wbo ||| (1 <<< ((nI kP) &&& 31))) le bi), (hd, cA G 13 hf), (kc0, oX1 km0), (km0, iA G 36 fk0), (kc1, oX1 km1), (km1, iA G 36 fk1), (kc2, oX1 km2), (km2, iA G 36 fk2), (kc3, oX1 km3), (km3, iA G 36 fk3), (kc4, oX1 km4), (km4, iA G 36 fk4), (kc5, oX1 km5), (km5, iA G 36 fk5), (kc6, oX1 km6), (km6, iA G 36 fk6), (kc7, oX1 km7), (km7, iA G 36 fk7), (kc8, oX1 km8), (km8, iA G 36 fk8), (kc9, oX1 km9), (km9, iA G 36 fk9), (kc10, oX1 km10), (km10, iA G 36 fk10), (kc11, oX1 km11), (km11, iA G 36 fk11), (kc12, oX1 km12), (km12, iA G 36 fk12), (bb, oX0 bpersons bpapers bstamps bversions blines bsteps bsayings bfindings bwarnings bquestions td vd vl gp), (bstamps, oX8 24 3 bstampsc (nI kbstamps)), (bstampsc, iA G 72 fbstamps), (bpapers, oX8 12 6 bpapersc (nI kbpapers)), (bpapersc, iA G 72 fbpapers)]) rfl (Nat.le_of_ble_eq_true rfl) rfl rfl rfl gX3_fewest_2.2.2.2.2.2.2.2.2.1 (fun H locs hP hD hS => ?_)
          refine lv_iinc (v := nI (kP + 1)) (lv' := [(2, .int (nI (kP + 1))), (0, .ref h0), (1, .int pp)]) hx hb gX3_fewest_2.2.2.2.2.2.2.2.2.2 hl (k := 0) rfl (nI_1 _) (by decide) rfl (fun ls hl => ?_)
          refine lv_goto (tgt := 7) hx hb gX3_fewest_3.1 (by decide) ?_
          have hst9 : wbo ||| (1 <<< ((nI kP) &&& 31)) = nI (SOF (BDB fbstamps kbstamps pp) (kP + 1)) := by rw [hwb, nI_orb (by omega), SOF.y (B := (BDB fbstamps kbstamps pp)) (n := kP) ⟨a3028, (MST.cnt (by omega)).mp c_38_3031⟩]
          exact ihP (kP + 1) (wbo ||| (1 <<< ((nI kP) &&& 31))) _ _ _ (by omega) (by first | assumption | exact Or.inl rfl | exact Or.inr rfl | exact rfl) (And.intro hP hD) hS (lv_sub hl [0, 1, 2] rfl)
      · refine lv_if_eq (tgt := 53) hx hb gX3_fewest_1.2.2.2.2.1 (by decide) (fun _ => ?_) (fun c9 => absurd (by decide) c9)
        refine lv_iinc (v := nI (kP + 1)) (lv' := [(2, .int (nI (kP + 1))), (0, .ref h0), (1, .int pp)]) hx hb gX3_fewest_2.2.2.2.2.2.2.2.2.2 hl (k := 0) rfl (nI_1 _) (by decide) rfl (fun ls hl => ?_)
        refine lv_goto (tgt := 7) hx hb gX3_fewest_3.1 (by decide) ?_
        have hst9 : wbo = nI (SOF (BDB fbstamps kbstamps pp) (kP + 1)) := by rw [hwb, SOF.n (B := (BDB fbstamps kbstamps pp)) (n := kP) (fun h9 => a3028 h9.1)]
        exact ihP (kP + 1) wbo _ _ _ (by omega) (by first | assumption | exact Or.inl rfl | exact Or.inr rfl | exact rfl) (And.intro hP hD) hS (lv_sub hl [0, 1, 2] rfl)
  exact keyP kbpapers 0 0 _ _ _ (by omega) (by first | assumption | exact Or.inl rfl | exact Or.inr rfl | exact rfl) (And.intro hP hD) hS (lv_sub hl [0, 1, 2] rfl)
def K_p_clash (l : Launch) (G : GG) (h0 : Nat) (x1 : Int32) (bb : Nat) (kk : Nat) (ikp : Int32) (sg : Nat) (do9 : Nat) (ru9 : Nat) (ta9 : Nat) (tp9 : Nat) (ro9 : Nat) (ho9 : Nat) (de9 : Nat) (bpersons : Nat) (bpapers : Nat) (bstamps : Nat) (bversions : Nat) (blines : Nat) (bsteps : Nat) (bsayings : Nat) (bfindings : Nat) (bwarnings : Nat) (bquestions : Nat) (td : Int32) (vd : Int32) (vl : Int32) (gp : Int32) (clk : Nat) (fi : Nat) (la : Nat) (ml : Nat) (mm : Nat) (sl : Nat) (sm : Nat) (cl : Int32) (clm : Nat) (fclm : Nat → Int32) (ffi : Nat → Int32) (fla : Nat → Int32) (fml : Nat → Int32) (fmm : Nat → Int32) (fsl : Nat → Int32) (fsm : Nat → Int32) (hd : Nat) (bo : Int32) (le : Int32) (bi : Int32) (hf : Nat → Option Nat) (kc0 : Nat) (km0 : Nat) (fk0 : Nat → Int32) (kc1 : Nat) (km1 : Nat) (fk1 : Nat → Int32) (kc2 : Nat) (km2 : Nat) (fk2 : Nat → Int32) (kc3 : Nat) (km3 : Nat) (fk3 : Nat → Int32) (kc4 : Nat) (km4 : Nat) (fk4 : Nat → Int32) (kc5 : Nat) (km5 : Nat) (fk5 : Nat → Int32) (kc6 : Nat) (km6 : Nat) (fk6 : Nat → Int32) (kc7 : Nat) (km7 : Nat) (fk7 : Nat → Int32) (kc8 : Nat) (km8 : Nat) (fk8 : Nat → Int32) (kc9 : Nat) (km9 : Nat) (fk9 : Nat → Int32) (kc10 : Nat) (km10 : Nat) (fk10 : Nat → Int32) (kc11 : Nat) (km11 : Nat) (fk11 : Nat → Int32) (kc12 : Nat) (km12 : Nat) (fk12 : Nat → Int32) (bpapersc : Nat) (kbpapers : Nat) (fbpapers : Nat → Int32) (bstampsc : Nat) (kbstamps : Nat) (fbstamps : Nat → Int32) : Prop := MI l G yX11_clash cX11_clash 2 (some .int) 42 0 0 [.ref h0, .int x1] [(h0, oX11 bb kk ikp sg do9 ru9 ta9 tp9 ro9 ho9 de9), (bb, oX0 bpersons bpapers bstamps bversions blines bsteps bsayings bfindings bwarnings bquestions td vd vl gp), (sg, oX7 bb clk fi la ml mm sl sm cl), (clk, oX1 clm), (clm, iA G 36 fclm), (fi, iA G 12 ffi), (la, iA G 12 fla), (ml, iA G 12 fml), (mm, iA G 12 fmm), (sl, iA G 12 fsl), (sm, iA G 12 fsm), (do9, oX3 bb hd bo le bi), (hd, cA G 13 hf), (kc0, oX1 km0), (km0, iA G 36 fk0), (kc1, oX1 km1), (km1, iA G 36 fk1), (kc2, oX1 km2), (km2, iA G 36 fk2), (kc3, oX1 km3), (km3, iA G 36 fk3), (kc4, oX1 km4), (km4, iA G 36 fk4), (kc5, oX1 km5), (km5, iA G 36 fk5), (kc6, oX1 km6), (km6, iA G 36 fk6), (kc7, oX1 km7), (km7, iA G 36 fk7), (kc8, oX1 km8), (km8, iA G 36 fk8), (kc9, oX1 km9), (km9, iA G 36 fk9), (kc10, oX1 km10), (km10, iA G 36 fk10), (kc11, oX1 km11), (km11, iA G 36 fk11), (kc12, oX1 km12), (km12, iA G 36 fk12), (bpapers, oX8 12 6 bpapersc (nI kbpapers)), (bpapersc, iA G 72 fbpapers), (bstamps, oX8 24 3 bstampsc (nI kbstamps)), (bstampsc, iA G 72 fbstamps)] (fun (r : Int32) (u : Int32 × (Nat → Int32) × (Nat → Int32) × (Nat → Int32) × (Nat → Int32) × (Nat → Int32) × (Nat → Int32) × (Nat → Int32) × Int32 × Int32 × Int32 × (Nat → Int32) × (Nat → Int32) × (Nat → Int32) × (Nat → Int32) × (Nat → Int32) × (Nat → Int32) × (Nat → Int32) × (Nat → Int32) × (Nat → Int32) × (Nat → Int32) × (Nat → Int32) × (Nat → Int32) × (Nat → Int32)) => (∃ s9, (CLQ (KST fbstamps (VPP (IVW fbpapers td vd vl kbpapers)) gp.toInt kbstamps) (DBQ fbstamps (VPP (IVW fbpapers td vd vl kbpapers)) (BDB fbstamps kbstamps (IVW fbpapers td vd vl kbpapers)) gp.toInt kbstamps) x1 s9) ∧ r = s9) ∧ (u.1 = 0 ∨ u.1 = 1)) (fun u : Int32 × (Nat → Int32) × (Nat → Int32) × (Nat → Int32) × (Nat → Int32) × (Nat → Int32) × (Nat → Int32) × (Nat → Int32) × Int32 × Int32 × Int32 × (Nat → Int32) × (Nat → Int32) × (Nat → Int32) × (Nat → Int32) × (Nat → Int32) × (Nat → Int32) × (Nat → Int32) × (Nat → Int32) × (Nat → Int32) × (Nat → Int32) × (Nat → Int32) × (Nat → Int32) × (Nat → Int32) => [(h0, oX11 bb kk ikp sg do9 ru9 ta9 tp9 ro9 ho9 de9), (bb, oX0 bpersons bpapers bstamps bversions blines bsteps bsayings bfindings bwarnings bquestions td vd vl gp), (sg, oX7 bb clk fi la ml mm sl sm u.1), (clk, oX1 clm), (clm, iA G 36 u.2.1), (fi, iA G 12 u.2.2.1), (la, iA G 12 u.2.2.2.1), (ml, iA G 12 u.2.2.2.2.1), (mm, iA G 12 u.2.2.2.2.2.1), (sl, iA G 12 u.2.2.2.2.2.2.1), (sm, iA G 12 u.2.2.2.2.2.2.2.1), (do9, oX3 bb hd u.2.2.2.2.2.2.2.2.1 u.2.2.2.2.2.2.2.2.2.1 u.2.2.2.2.2.2.2.2.2.2.1), (hd, cA G 13 hf), (kc0, oX1 km0), (km0, iA G 36 u.2.2.2.2.2.2.2.2.2.2.2.1), (kc1, oX1 km1), (km1, iA G 36 u.2.2.2.2.2.2.2.2.2.2.2.2.1), (kc2, oX1 km2), (km2, iA G 36 u.2.2.2.2.2.2.2.2.2.2.2.2.2.1), (kc3, oX1 km3), (km3, iA G 36 u.2.2.2.2.2.2.2.2.2.2.2.2.2.2.1), (kc4, oX1 km4), (km4, iA G 36 u.2.2.2.2.2.2.2.2.2.2.2.2.2.2.2.1), (kc5, oX1 km5), (km5, iA G 36 u.2.2.2.2.2.2.2.2.2.2.2.2.2.2.2.2.1), (kc6, oX1 km6), (km6, iA G 36 u.2.2.2.2.2.2.2.2.2.2.2.2.2.2.2.2.2.1), (kc7, oX1 km7), (km7, iA G 36 u.2.2.2.2.2.2.2.2.2.2.2.2.2.2.2.2.2.2.1), (kc8, oX1 km8), (km8, iA G 36 u.2.2.2.2.2.2.2.2.2.2.2.2.2.2.2.2.2.2.2.1), (kc9, oX1 km9), (km9, iA G 36 u.2.2.2.2.2.2.2.2.2.2.2.2.2.2.2.2.2.2.2.2.1), (kc10, oX1 km10), (km10, iA G 36 u.2.2.2.2.2.2.2.2.2.2.2.2.2.2.2.2.2.2.2.2.2.1), (kc11, oX1 km11), (km11, iA G 36 u.2.2.2.2.2.2.2.2.2.2.2.2.2.2.2.2.2.2.2.2.2.2.1), (kc12, oX1 km12), (km12, iA G 36 u.2.2.2.2.2.2.2.2.2.2.2.2.2.2.2.2.2.2.2.2.2.2.2), (bpapers, oX8 12 6 bpapersc (nI kbpapers)), (bpapersc, iA G 72 fbpapers), (bstamps, oX8 24 3 bstampsc (nI kbstamps)), (bstampsc, iA G 72 fbstamps)])
set_option maxHeartbeats 4000000 in
set_option maxRecDepth 100000 in
theorem p_clash (l : Launch) (G : GG) (h0 : Nat) (x1 : Int32) (bb : Nat) (kk : Nat) (ikp : Int32) (sg : Nat) (do9 : Nat) (ru9 : Nat) (ta9 : Nat) (tp9 : Nat) (ro9 : Nat) (ho9 : Nat) (de9 : Nat) (bpersons : Nat) (bpapers : Nat) (bstamps : Nat) (bversions : Nat) (blines : Nat) (bsteps : Nat) (bsayings : Nat) (bfindings : Nat) (bwarnings : Nat) (bquestions : Nat) (td : Int32) (vd : Int32) (vl : Int32) (gp : Int32) (clk : Nat) (fi : Nat) (la : Nat) (ml : Nat) (mm : Nat) (sl : Nat) (sm : Nat) (cl : Int32) (clm : Nat) (fclm : Nat → Int32) (ffi : Nat → Int32) (fla : Nat → Int32) (fml : Nat → Int32) (fmm : Nat → Int32) (fsl : Nat → Int32) (fsm : Nat → Int32) (hd : Nat) (bo : Int32) (le : Int32) (bi : Int32) (hf : Nat → Option Nat) (kc0 : Nat) (km0 : Nat) (fk0 : Nat → Int32) (kc1 : Nat) (km1 : Nat) (fk1 : Nat → Int32) (kc2 : Nat) (km2 : Nat) (fk2 : Nat → Int32) (kc3 : Nat) (km3 : Nat) (fk3 : Nat → Int32) (kc4 : Nat) (km4 : Nat) (fk4 : Nat → Int32) (kc5 : Nat) (km5 : Nat) (fk5 : Nat → Int32) (kc6 : Nat) (km6 : Nat) (fk6 : Nat → Int32) (kc7 : Nat) (km7 : Nat) (fk7 : Nat → Int32) (kc8 : Nat) (km8 : Nat) (fk8 : Nat → Int32) (kc9 : Nat) (km9 : Nat) (fk9 : Nat → Int32) (kc10 : Nat) (km10 : Nat) (fk10 : Nat → Int32) (kc11 : Nat) (km11 : Nat) (fk11 : Nat → Int32) (kc12 : Nat) (km12 : Nat) (fk12 : Nat → Int32) (bpapersc : Nat) (kbpapers : Nat) (fbpapers : Nat → Int32) (bstampsc : Nat) (kbstamps : Nat) (fbstamps : Nat → Int32) (hkbpapers : kbpapers ≤ 12) (hkbstamps : kbstamps ≤ 24) (hcl : cl = 0 ∨ cl = 1) (hh0 : hf 0 = some kc0) (hh1 : hf 1 = some kc1) (hh2 : hf 2 = some kc2) (hh3 : hf 3 = some kc3) (hh4 : hf 4 = some kc4) (hh5 : hf 5 = some kc5) (hh6 : hf 6 = some kc6) (hh7 : hf 7 = some kc7) (hh8 : hf 8 = some kc8) (hh9 : hf 9 = some kc9) (hh10 : hf 10 = some kc10) (hh11 : hf 11 = some kc11) (hh12 : hf 12 = some kc12) (hSV : SVL fbstamps kbstamps) (hgp : GPR gp) : K_p_clash l G h0 x1 bb kk ikp sg do9 ru9 ta9 tp9 ro9 ho9 de9 bpersons bpapers bstamps bversions blines bsteps bsayings bfindings bwarnings bquestions td vd vl gp clk fi la ml mm sl sm cl clm fclm ffi fla fml fmm fsl fsm hd bo le bi hf kc0 km0 fk0 kc1 km1 fk1 kc2 km2 fk2 kc3 km3 fk3 kc4 km4 fk4 kc5 km5 fk5 kc6 km6 fk6 kc7 km7 fk7 kc8 km8 fk8 kc9 km9 fk9 kc10 km10 fk10 kc11 km11 fk11 kc12 km12 fk12 bpapersc kbpapers fbpapers bstampsc kbstamps fbstamps := by
  refine MI.start (by decide +kernel) (Nat.le_of_ble_eq_true rfl) ?_
  intro p e s m below meth c A ls hC hK hP hD hS hA hl
  refine absQ (fun Q0 hQ0 => ?_)
  have hl : lv_has ls 2 [(0, .ref h0), (1, .int x1)] := hl
  refine Kan8 hC (fun hx hb hr hml hB hown hlocks hnm => ?_)
  refine lv_iload_n hx hb gX11_clash_0.1 rfl (lv_at1 hl) ?_
  refine lv_iconst (v := 0) hx hb gX11_clash_0.2.1 (by decide) ?_
  refine lv_iconst (v := 1) hx hb gX11_clash_0.2.2.1 (by decide) ?_
  refine pS hC hK hl (c_within l G x1 0 1) si_X11_83 rfl rfl (Nat.le_of_ble_eq_true rfl) rm_42_1_3 ⟨by first | exact Nat.le_of_ble_eq_true rfl | exact Nat.zero_le _, by first | exact Nat.le_of_ble_eq_true rfl | exact Nat.zero_le _⟩ gX11_clash_0.2.2.2.1 (Kors (Keqa fun a3033 => ?_) (Keqa fun a3033 => ?_))
  · refine lv_if_ne (tgt := 11) hx hb gX11_clash_0.2.2.2.2.1 (by decide) (fun _ => ?_) (fun c9 => absurd c9 (by decide))
    refine lv_iload_n hx hb gX11_clash_0.2.2.2.2.2.2.2.1 rfl (lv_at1 hl) ?_
    refine lv_iconst (v := 1) hx hb gX11_clash_0.2.2.2.2.2.2.2.2.1 (by decide) ?_
    refine lv_icmp_ne (tgt := 31) hx hb gX11_clash_0.2.2.2.2.2.2.2.2.2 (by decide) (fun c_13_3034 => ?_) (fun c_13_3034 => ?_)
    · refine lv_aload_n hx hb gX11_clash_1.2.2.2.2.2.2.2.1 rfl (lv_at0 hl) ?_
      refine gf_X11_28 hC rfl hK hP 0 rfl rfl gX11_clash_1.2.2.2.2.2.2.2.2.1 ?_
      refine lv_aload_n hx hb gX11_clash_1.2.2.2.2.2.2.2.2.2 rfl (lv_at0 hl) ?_
      refine gf_X11_15 hC rfl hK hP 0 rfl rfl gX11_clash_2.1 ?_
      refine pV hC hK hl hP hD (c_inViewX l G bb bpersons bpapers bstamps bversions blines bsteps bsayings bfindings bwarnings bquestions td vd vl gp bpapersc kbpapers fbpapers (hkbpapers)) si_X11_97 [1, 39, 40] sm_1_39_40 fm_1_39_40 nd_1_39_40 rfl rfl rfl rfl rfl (Nat.le_of_ble_eq_true rfl) rm_42_3_6 ⟨by first | exact Nat.le_of_ble_eq_true rfl | exact Nat.zero_le _, by first | exact Nat.le_of_ble_eq_true rfl | exact Nat.zero_le _⟩ gX11_clash_2.2.1 (Keqr ?_)
      refine vV (wr := [(h0, oX11 bb kk ikp sg do9 ru9 ta9 tp9 ro9 ho9 de9), (do9, oX3 bb hd bo le bi), (hd, cA G 13 hf), (kc0, oX1 km0), (km0, iA G 36 fk0), (kc1, oX1 km1), (km1, iA G 36 fk1), (kc2, oX1 km2), (km2, iA G 36 fk2), (kc3, oX1 km3), (km3, iA G 36 fk3), (kc4, oX1 km4), (km4, iA G 36 fk4), (kc5, oX1 km5), (km5, iA G 36 fk5), (kc6, oX1 km6), (km6, iA G 36 fk6), (kc7, oX1 km7), (km7, iA G 36 fk7), (kc8, oX1 km8), (km8, iA G 36 fk8), (kc9, oX1 km9), (km9, iA G 36 fk9), (kc10, oX1 km10), (km10, iA G 36 fk10), (kc11, oX1 km11), (km11, iA G 36 fk11), (kc12, oX1 km12), (km12, iA G 36 fk12), (bpapers, oX8 12 6 bpapersc (nI kbpapers)), (bpapersc, iA G 72 fbpapers)]) hC hK hl hP hD hS hA (c_lookX l G sg (IVW fbpapers td vd vl kbpapers) bb clk fi la ml mm sl sm cl clm fclm ffi fla fml fmm fsl fsm bpersons bpapers bstamps bversions blines bsteps bsayings bfindings bwarnings bquestions td vd vl gp bstampsc kbstamps fbstamps (hkbstamps) (hSV) (hgp)) si_X11_183 [2, 3, 4, 5, 6, 7, 8, 9, 10, 1, 41, 42] [0, 11, 12, 13, 14, 15, 16, 17, 18, 19, 20, 21, 22, 23, 24, 25, 26, 27, 28, 29, 30, 31, 32, 33, 34, 35, 36, 37, 38, 39, 40] sm_2_3_4_5_6_7_8_9_10_1_41_42 fm_2_3_4_5_6_7_8_9_10_1_41_42 nd_2_3_4_5_6_7_8_9_10_1_41_42 sm_0_11_12_13_14_15_16_17_18_19_20_21_22_23_24_25_26_27_28_29_30_31_32_33_34_35_36_37_38_39_40 nd_0_11_12_13_14_15_16_17_18_19_20_21_22_23_24_25_26_27_28_29_30_31_32_33_34_35_36_37_38_39_40 dj_2_3_4_5_6_7_8_9_10_1_41_42__0_11_12_13_14_15_16_17_18_19_20_21_22_23_24_25_26_27_28_29_30_31_32_33_34_35_36_37_38_39_40 rfl rfl rfl rfl rfl (Nat.le_of_ble_eq_true rfl) rm_42_5_4 ⟨Nat.le_of_ble_eq_true rfl, Nat.le_of_ble_eq_true rfl⟩ gX11_clash_2.2.2.1 (Ktu8 fun cl13039 gclm3040 gfi3041 gla3042 gml3043 gmm3044 gsl3045 gsm3046 => ?_)
      intro H locs hr3037 hP hD hS
      try dsimp only at hr3037
      refine Kpdr (ws := [(h0, oX11 bb kk ikp sg do9 ru9 ta9 tp9 ro9 ho9 de9), (do9, oX3 bb hd bo le bi), (hd, cA G 13 hf), (kc0, oX1 km0), (km0, iA G 36 fk0), (kc1, oX1 km1), (km1, iA G 36 fk1), (kc2, oX1 km2), (km2, iA G 36 fk2), (kc3, oX1 km3), (km3, iA G 36 fk3), (kc4, oX1 km4), (km4, iA G 36 fk4), (kc5, oX1 km5), (km5, iA G 36 fk5), (kc6, oX1 km6), (km6, iA G 36 fk6), (kc7, oX1 km7), (km7, iA G 36 fk7), (kc8, oX1 km8), (km8, iA G 36 fk8), (kc9, oX1 km9), (km9, iA G 36 fk9), (kc10, oX1 km10), (km10, iA G 36 fk10), (kc11, oX1 km11), (km11, iA G 36 fk11), (kc12, oX1 km12), (km12, iA G 36 fk12), (bpapers, oX8 12 6 bpapersc (nI kbpapers)), (bpapersc, iA G 72 fbpapers), (sg, oX7 bb clk fi la ml mm sl sm cl13039), (clk, oX1 clm), (clm, iA G 36 gclm3040), (fi, iA G 12 gfi3041), (la, iA G 12 gla3042), (ml, iA G 12 gml3043), (mm, iA G 12 gmm3044), (sl, iA G 12 gsl3045), (sm, iA G 12 gsm3046), (bb, oX0 bpersons bpapers bstamps bversions blines bsteps bsayings bfindings bwarnings bquestions td vd vl gp), (bstamps, oX8 24 3 bstampsc (nI kbstamps)), (bstampsc, iA G 72 fbstamps)]) hP hD (fun hP hD => ?_)
      have w3047 := hr3037
      refine lv_aload_n hx hb gX11_clash_2.2.2.2.1 rfl (lv_at0 hl) ?_
      refine gf_X11_28 hC rfl hK hP 0 rfl rfl gX11_clash_2.2.2.2.2.1 ?_
      refine pV hC hK hl hP hD (c_clashesX l G sg bb clk fi la ml mm sl sm cl13039 (w3047.1)) si_X11_187 [31] sm_31 fm_31 nd_31 rfl rfl rfl rfl rfl (Nat.le_of_ble_eq_true rfl) rm_42_1_1 ⟨by first | exact Nat.le_of_ble_eq_true rfl | exact Nat.zero_le _, by first | exact Nat.le_of_ble_eq_true rfl | exact Nat.zero_le _⟩ gX11_clash_2.2.2.2.2.2.1 (Kors (Keqa fun a3049 => ?_) (Keqa fun a3049 => ?_))
      · refine lv_if_eq (tgt := 59) hx hb gX11_clash_2.2.2.2.2.2.2.1 (by decide) (fun c9 => absurd c9 (by decide)) (fun _ => ?_)
        refine lv_iconst (v := 1) hx hb gX11_clash_2.2.2.2.2.2.2.2.1 (by decide) ?_
        refine lv_goto (tgt := 60) hx hb gX11_clash_2.2.2.2.2.2.2.2.2.1 (by decide) ?_
        refine toQ hQ0 ?_
        exact RI (v := 1) hC hP hD hS [0, 40, 31, 32, 33, 34, 35, 36, 37, 38, 39, 1, 2, 3, 4, 5, 6, 7, 8, 9, 10, 11, 12, 13, 14, 15, 16, 17, 18, 19, 20, 21, 22, 23, 24, 25, 26, 27, 28, 29, 30, 41, 42] (cl13039, gclm3040, gfi3041, gla3042, gml3043, gmm3044, gsl3045, gsm3046, bo, le, bi, fk0, fk1, fk2, fk3, fk4, fk5, fk6, fk7, fk8, fk9, fk10, fk11, fk12) rfl rfl (by decide) (⟨⟨1, Or.inr (Or.inl ⟨a3033, c_13_3034, Or.inl ⟨(w3047.2.1.nos (by rw [a3049]; decide)).2, rfl⟩⟩), rfl⟩, w3047.1⟩) rfl gX11_clash_3
      · refine lv_if_eq (tgt := 59) hx hb gX11_clash_2.2.2.2.2.2.2.1 (by decide) (fun _ => ?_) (fun c9 => absurd (by decide) c9)
        refine lv_iconst (v := 0) hx hb gX11_clash_2.2.2.2.2.2.2.2.2.2 (by decide) ?_
        refine toQ hQ0 ?_
        exact RI (v := 0) hC hP hD hS [0, 40, 31, 32, 33, 34, 35, 36, 37, 38, 39, 1, 2, 3, 4, 5, 6, 7, 8, 9, 10, 11, 12, 13, 14, 15, 16, 17, 18, 19, 20, 21, 22, 23, 24, 25, 26, 27, 28, 29, 30, 41, 42] (cl13039, gclm3040, gfi3041, gla3042, gml3043, gmm3044, gsl3045, gsm3046, bo, le, bi, fk0, fk1, fk2, fk3, fk4, fk5, fk6, fk7, fk8, fk9, fk10, fk11, fk12) rfl rfl (by decide) (⟨⟨0, Or.inr (Or.inl ⟨a3033, c_13_3034, Or.inr ⟨(w3047.2.1.get a3049).nos, rfl⟩⟩), rfl⟩, w3047.1⟩) rfl gX11_clash_3
    · refine lv_aload_n hx hb gX11_clash_1.1 rfl (lv_at0 hl) ?_
      refine gf_X11_35 hC rfl hK hP 0 rfl rfl gX11_clash_1.2.1 ?_
      refine lv_aload_n hx hb gX11_clash_1.2.2.1 rfl (lv_at0 hl) ?_
      refine gf_X11_15 hC rfl hK hP 0 rfl rfl gX11_clash_1.2.2.2.1 ?_
      refine pV hC hK hl hP hD (c_inViewX l G bb bpersons bpapers bstamps bversions blines bsteps bsayings bfindings bwarnings bquestions td vd vl gp bpapersc kbpapers fbpapers (hkbpapers)) si_X11_97 [1, 39, 40] sm_1_39_40 fm_1_39_40 nd_1_39_40 rfl rfl rfl rfl rfl (Nat.le_of_ble_eq_true rfl) rm_42_3_6 ⟨by first | exact Nat.le_of_ble_eq_true rfl | exact Nat.zero_le _, by first | exact Nat.le_of_ble_eq_true rfl | exact Nat.zero_le _⟩ gX11_clash_1.2.2.2.2.1 (Keqr ?_)
      have hpk9 : ∀ p, p < 12 → HB (IVW fbpapers td vd vl kbpapers) (nI p) → p < kbpapers := fun p9 h8 h9 => Classical.byContradiction fun h7 => HB.no (by omega) h7 h8 h9
      refine iV (wr := [(h0, oX11 bb kk ikp sg do9 ru9 ta9 tp9 ro9 ho9 de9), (sg, oX7 bb clk fi la ml mm sl sm cl), (clk, oX1 clm), (clm, iA G 36 fclm), (fi, iA G 12 ffi), (la, iA G 12 fla), (ml, iA G 12 fml), (mm, iA G 12 fmm), (sl, iA G 12 fsl), (sm, iA G 12 fsm)]) hC hK hl hP hD hS hA (c_fewestX l G do9 (IVW fbpapers td vd vl kbpapers) bb hd bo le bi hf kc0 km0 fk0 kc1 km1 fk1 kc2 km2 fk2 kc3 km3 fk3 kc4 km4 fk4 kc5 km5 fk5 kc6 km6 fk6 kc7 km7 fk7 kc8 km8 fk8 kc9 km9 fk9 kc10 km10 fk10 kc11 km11 fk11 kc12 km12 fk12 bpersons bpapers bstamps bversions blines bsteps bsayings bfindings bwarnings bquestions td vd vl gp bstampsc kbstamps fbstamps bpapersc kbpapers fbpapers (hkbstamps) (hkbpapers) (hh0) (hh1) (hh2) (hh3) (hh4) (hh5) (hh6) (hh7) (hh8) (hh9) (hh10) (hh11) (hh12) (hSV) (hgp) (hpk9)) si_X11_180 [11, 12, 13, 14, 15, 16, 17, 18, 19, 20, 21, 22, 23, 24, 25, 26, 27, 28, 29, 30, 31, 32, 33, 34, 35, 36, 37, 38, 1, 41, 42, 39, 40] [0, 2, 3, 4, 5, 6, 7, 8, 9, 10] sm_11_12_13_14_15_16_17_18_19_20_21_22_23_24_25_26_27_28_29_30_31_32_33_34_35_36_37_38_1_41_42_39_40 fm_11_12_13_14_15_16_17_18_19_20_21_22_23_24_25_26_27_28_29_30_31_32_33_34_35_36_37_38_1_41_42_39_40 nd_11_12_13_14_15_16_17_18_19_20_21_22_23_24_25_26_27_28_29_30_31_32_33_34_35_36_37_38_1_41_42_39_40 sm_0_2_3_4_5_6_7_8_9_10 nd_0_2_3_4_5_6_7_8_9_10 dj_11_12_13_14_15_16_17_18_19_20_21_22_23_24_25_26_27_28_29_30_31_32_33_34_35_36_37_38_1_41_42_39_40__0_2_3_4_5_6_7_8_9_10 rfl rfl rfl rfl rfl (Nat.le_of_ble_eq_true rfl) rm_42_40_3 ⟨Nat.le_of_ble_eq_true rfl, Nat.le_of_ble_eq_true rfl⟩ gX11_clash_1.2.2.2.2.2.1 (fun r3052 => Ktu16 fun le13054 bi13055 gk03056 gk13057 gk23058 gk33059 gk43060 gk53061 gk63062 gk73063 gk83064 gk93065 gk103066 gk113067 gk123068 bo13069 => ?_)
      intro H locs hr3052 hP hD hS
      try dsimp only at hr3052
      refine Kpdr (ws := [(h0, oX11 bb kk ikp sg do9 ru9 ta9 tp9 ro9 ho9 de9), (sg, oX7 bb clk fi la ml mm sl sm cl), (clk, oX1 clm), (clm, iA G 36 fclm), (fi, iA G 12 ffi), (la, iA G 12 fla), (ml, iA G 12 fml), (mm, iA G 12 fmm), (sl, iA G 12 fsl), (sm, iA G 12 fsm), (do9, oX3 bb hd bo13069 le13054 bi13055), (hd, cA G 13 hf), (kc0, oX1 km0), (km0, iA G 36 gk03056), (kc1, oX1 km1), (km1, iA G 36 gk13057), (kc2, oX1 km2), (km2, iA G 36 gk23058), (kc3, oX1 km3), (km3, iA G 36 gk33059), (kc4, oX1 km4), (km4, iA G 36 gk43060), (kc5, oX1 km5), (km5, iA G 36 gk53061), (kc6, oX1 km6), (km6, iA G 36 gk63062), (kc7, oX1 km7), (km7, iA G 36 gk73063), (kc8, oX1 km8), (km8, iA G 36 gk83064), (kc9, oX1 km9), (km9, iA G 36 gk93065), (kc10, oX1 km10), (km10, iA G 36 gk103066), (kc11, oX1 km11), (km11, iA G 36 gk113067), (kc12, oX1 km12), (km12, iA G 36 gk123068), (bb, oX0 bpersons bpapers bstamps bversions blines bsteps bsayings bfindings bwarnings bquestions td vd vl gp), (bstamps, oX8 24 3 bstampsc (nI kbstamps)), (bstampsc, iA G 72 fbstamps), (bpapers, oX8 12 6 bpapersc (nI kbpapers)), (bpapersc, iA G 72 fbpapers)]) hP hD (fun hP hD => ?_)
      obtain ⟨W9_3070, hpx3070, rfl⟩ := hr3052
      try dsimp only at hpx3070
      refine toQ hQ0 ?_
      exact RI (v := nI W9_3070) hC hP hD hS [0, 38, 1, 2, 3, 4, 5, 6, 7, 8, 9, 10, 11, 12, 13, 14, 15, 16, 17, 18, 19, 20, 21, 22, 23, 24, 25, 26, 27, 28, 29, 30, 31, 32, 33, 34, 35, 36, 37, 41, 42, 39, 40] (cl, fclm, ffi, fla, fml, fmm, fsl, fsm, bo13069, le13054, bi13055, gk03056, gk13057, gk23058, gk33059, gk43060, gk53061, gk63062, gk73063, gk83064, gk93065, gk103066, gk113067, gk123068) rfl rfl (by decide) (⟨⟨nI W9_3070, Or.inr (Or.inr ⟨a3033, c_13_3034, _, hpx3070, rfl⟩), rfl⟩, hcl⟩) rfl gX11_clash_1.2.2.2.2.2.2.1
  · refine lv_if_ne (tgt := 11) hx hb gX11_clash_0.2.2.2.2.1 (by decide) (fun c9 => absurd (by decide) c9) (fun _ => ?_)
    refine lv_iconst (v := (-1)) hx hb gX11_clash_0.2.2.2.2.2.1 (by decide) ?_
    refine toQ hQ0 ?_
    exact RI (v := (-1)) hC hP hD hS [0, 1, 2, 3, 4, 5, 6, 7, 8, 9, 10, 11, 12, 13, 14, 15, 16, 17, 18, 19, 20, 21, 22, 23, 24, 25, 26, 27, 28, 29, 30, 31, 32, 33, 34, 35, 36, 37, 38, 39, 40, 41, 42] (cl, fclm, ffi, fla, fml, fmm, fsl, fsm, bo, le, bi, fk0, fk1, fk2, fk3, fk4, fk5, fk6, fk7, fk8, fk9, fk10, fk11, fk12) rfl rfl (by decide) (⟨⟨(-1), Or.inl ⟨a3033, rfl⟩, rfl⟩, hcl⟩) rfl gX11_clash_0.2.2.2.2.2.2.1
def K_c_known (l : Launch) (G : GG) (h0 : Nat) (x1 : Int32) (x2 : Int32) (x3 : Int32) (x4 : Int32) (bb : Nat) (kk : Nat) (ikp : Int32) (sg : Nat) (do9 : Nat) (ru9 : Nat) (ta9 : Nat) (tp9 : Nat) (ro9 : Nat) (ho9 : Nat) (de9 : Nat) (clk : Nat) (fi : Nat) (la : Nat) (ml : Nat) (mm : Nat) (sl : Nat) (sm : Nat) (cl : Int32) (clm : Nat) (fclm : Nat → Int32) (ffi : Nat → Int32) (fla : Nat → Int32) (fml : Nat → Int32) (fmm : Nat → Int32) (fsl : Nat → Int32) (fsm : Nat → Int32) (fc : Nat) (sh : Nat) (r1 : Int32) (rc : Int32) (rh : Int32) (ffc : Nat → Int32) (fsh : Nat → Int32) (bpersons : Nat) (bpapers : Nat) (bstamps : Nat) (bversions : Nat) (blines : Nat) (bsteps : Nat) (bsayings : Nat) (bfindings : Nat) (bwarnings : Nat) (bquestions : Nat) (td : Int32) (vd : Int32) (vl : Int32) (gp : Int32) (bversionsc : Nat) (kbversions : Nat) (fbversions : Nat → Int32) (bpersonsc : Nat) (kbpersons : Nat) (fbpersons : Nat → Int32) (bpapersc : Nat) (kbpapers : Nat) (fbpapers : Nat → Int32) (blinesc : Nat) (kblines : Nat) (fblines : Nat → Int32) (bstepsc : Nat) (kbsteps : Nat) (fbsteps : Nat → Int32) (bstampsc : Nat) (kbstamps : Nat) (fbstamps : Nat → Int32) : Prop := MI l G yX11_knownFrom cX11_knownFrom 5 (some .int) 6 0 0 [.ref h0, .int x1, .int x2, .int x3, .int x4] [(h0, oX11 bb kk ikp sg do9 ru9 ta9 tp9 ro9 ho9 de9), (sg, oX7 bb clk fi la ml mm sl sm cl), (clk, oX1 clm), (clm, iA G 36 fclm), (fi, iA G 12 ffi), (la, iA G 12 fla), (ml, iA G 12 fml), (mm, iA G 12 fmm), (sl, iA G 12 fsl), (sm, iA G 12 fsm), (ru9, oX6 bb sg fc sh r1 rc rh), (fc, iA G 5 ffc), (sh, iA G 8 fsh), (bb, oX0 bpersons bpapers bstamps bversions blines bsteps bsayings bfindings bwarnings bquestions td vd vl gp), (bversions, oX8 8 3 bversionsc (nI kbversions)), (bversionsc, iA G 24 fbversions), (bpersons, oX8 10 2 bpersonsc (nI kbpersons)), (bpersonsc, iA G 20 fbpersons), (bpapers, oX8 12 6 bpapersc (nI kbpapers)), (bpapersc, iA G 72 fbpapers), (blines, oX8 72 7 blinesc (nI kblines)), (blinesc, iA G 504 fblines), (bsteps, oX8 960 1 bstepsc (nI kbsteps)), (bstepsc, iA G 960 fbsteps), (bstamps, oX8 24 3 bstampsc (nI kbstamps)), (bstampsc, iA G 72 fbstamps)] (fun (r : Int32) (u : Int32 × (Nat → Int32) × (Nat → Int32) × (Nat → Int32) × (Nat → Int32) × (Nat → Int32) × (Nat → Int32) × (Nat → Int32) × Int32 × Int32 × Int32 × (Nat → Int32) × (Nat → Int32)) => (True) ∧ (u.1 = 0 ∨ u.1 = 1)) (fun u : Int32 × (Nat → Int32) × (Nat → Int32) × (Nat → Int32) × (Nat → Int32) × (Nat → Int32) × (Nat → Int32) × (Nat → Int32) × Int32 × Int32 × Int32 × (Nat → Int32) × (Nat → Int32) => [(h0, oX11 bb kk ikp sg do9 ru9 ta9 tp9 ro9 ho9 de9), (sg, oX7 bb clk fi la ml mm sl sm u.1), (clk, oX1 clm), (clm, iA G 36 u.2.1), (fi, iA G 12 u.2.2.1), (la, iA G 12 u.2.2.2.1), (ml, iA G 12 u.2.2.2.2.1), (mm, iA G 12 u.2.2.2.2.2.1), (sl, iA G 12 u.2.2.2.2.2.2.1), (sm, iA G 12 u.2.2.2.2.2.2.2.1), (ru9, oX6 bb sg fc sh u.2.2.2.2.2.2.2.2.1 u.2.2.2.2.2.2.2.2.2.1 u.2.2.2.2.2.2.2.2.2.2.1), (fc, iA G 5 u.2.2.2.2.2.2.2.2.2.2.2.1), (sh, iA G 8 u.2.2.2.2.2.2.2.2.2.2.2.2), (bb, oX0 bpersons bpapers bstamps bversions blines bsteps bsayings bfindings bwarnings bquestions td vd vl gp), (bversions, oX8 8 3 bversionsc (nI kbversions)), (bversionsc, iA G 24 fbversions), (bpersons, oX8 10 2 bpersonsc (nI kbpersons)), (bpersonsc, iA G 20 fbpersons), (bpapers, oX8 12 6 bpapersc (nI kbpapers)), (bpapersc, iA G 72 fbpapers), (blines, oX8 72 7 blinesc (nI kblines)), (blinesc, iA G 504 fblines), (bsteps, oX8 960 1 bstepsc (nI kbsteps)), (bstepsc, iA G 960 fbsteps), (bstamps, oX8 24 3 bstampsc (nI kbstamps)), (bstampsc, iA G 72 fbstamps)])
set_option maxHeartbeats 4000000 in
set_option maxRecDepth 100000 in
theorem c_known (l : Launch) (G : GG) (h0 : Nat) (x1 : Int32) (x2 : Int32) (x3 : Int32) (x4 : Int32) (bb : Nat) (kk : Nat) (ikp : Int32) (sg : Nat) (do9 : Nat) (ru9 : Nat) (ta9 : Nat) (tp9 : Nat) (ro9 : Nat) (ho9 : Nat) (de9 : Nat) (clk : Nat) (fi : Nat) (la : Nat) (ml : Nat) (mm : Nat) (sl : Nat) (sm : Nat) (cl : Int32) (clm : Nat) (fclm : Nat → Int32) (ffi : Nat → Int32) (fla : Nat → Int32) (fml : Nat → Int32) (fmm : Nat → Int32) (fsl : Nat → Int32) (fsm : Nat → Int32) (fc : Nat) (sh : Nat) (r1 : Int32) (rc : Int32) (rh : Int32) (ffc : Nat → Int32) (fsh : Nat → Int32) (bpersons : Nat) (bpapers : Nat) (bstamps : Nat) (bversions : Nat) (blines : Nat) (bsteps : Nat) (bsayings : Nat) (bfindings : Nat) (bwarnings : Nat) (bquestions : Nat) (td : Int32) (vd : Int32) (vl : Int32) (gp : Int32) (bversionsc : Nat) (kbversions : Nat) (fbversions : Nat → Int32) (bpersonsc : Nat) (kbpersons : Nat) (fbpersons : Nat → Int32) (bpapersc : Nat) (kbpapers : Nat) (fbpapers : Nat → Int32) (blinesc : Nat) (kblines : Nat) (fblines : Nat → Int32) (bstepsc : Nat) (kbsteps : Nat) (fbsteps : Nat → Int32) (bstampsc : Nat) (kbstamps : Nat) (fbstamps : Nat → Int32) (hkbversions : kbversions ≤ 8) (hkbpersons : kbpersons ≤ 10) (hkbpapers : kbpapers ≤ 12) (hkblines : kblines ≤ 72) (hkbsteps : kbsteps ≤ 960) (hkbstamps : kbstamps ≤ 24) : K_c_known l G h0 x1 x2 x3 x4 bb kk ikp sg do9 ru9 ta9 tp9 ro9 ho9 de9 clk fi la ml mm sl sm cl clm fclm ffi fla fml fmm fsl fsm fc sh r1 rc rh ffc fsh bpersons bpapers bstamps bversions blines bsteps bsayings bfindings bwarnings bquestions td vd vl gp bversionsc kbversions fbversions bpersonsc kbpersons fbpersons bpapersc kbpapers fbpapers blinesc kblines fblines bstepsc kbsteps fbsteps bstampsc kbstamps fbstamps := by
  refine MI.start (by decide +kernel) (Nat.le_of_ble_eq_true rfl) ?_
  intro p e s m below meth c A ls hC hK hP hD hS hA hl
  refine absQ (fun Q0 hQ0 => ?_)
  have hl : lv_has ls 5 [(0, .ref h0), (1, .int x1), (2, .int x2), (3, .int x3), (4, .int x4)] := hl
  refine Kan8 hC (fun hx hb hr hml hB hown hlocks hnm => ?_)
  refine lv_aload_n hx hb gX11_knownFrom_0.1 rfl (lv_at0 hl) ?_
  refine gf_X11_28 hC rfl hK hP 0 rfl rfl gX11_knownFrom_0.2.1 ?_
  refine lv_iload hx hb gX11_knownFrom_0.2.2.1 (lv_at4 hl) ?_
  refine vV (wr := [(h0, oX11 bb kk ikp sg do9 ru9 ta9 tp9 ro9 ho9 de9), (ru9, oX6 bb sg fc sh r1 rc rh), (fc, iA G 5 ffc), (sh, iA G 8 fsh), (bversions, oX8 8 3 bversionsc (nI kbversions)), (bversionsc, iA G 24 fbversions), (bpersons, oX8 10 2 bpersonsc (nI kbpersons)), (bpersonsc, iA G 20 fbpersons), (bpapers, oX8 12 6 bpapersc (nI kbpapers)), (bpapersc, iA G 72 fbpapers), (blines, oX8 72 7 blinesc (nI kblines)), (blinesc, iA G 504 fblines), (bsteps, oX8 960 1 bstepsc (nI kbsteps)), (bstepsc, iA G 960 fbsteps)]) hC hK hl hP hD hS hA (c_look l G sg x4 bb clk fi la ml mm sl sm cl clm fclm ffi fla fml fmm fsl fsm bpersons bpapers bstamps bversions blines bsteps bsayings bfindings bwarnings bquestions td vd vl gp bstampsc kbstamps fbstamps (hkbstamps)) si_X11_183 [1, 2, 3, 4, 5, 6, 7, 8, 9, 13, 24, 25] [0, 10, 11, 12, 14, 15, 16, 17, 18, 19, 20, 21, 22, 23] sm_1_2_3_4_5_6_7_8_9_13_24_25 fm_1_2_3_4_5_6_7_8_9_13_24_25 nd_1_2_3_4_5_6_7_8_9_13_24_25 sm_0_10_11_12_14_15_16_17_18_19_20_21_22_23 nd_0_10_11_12_14_15_16_17_18_19_20_21_22_23 dj_1_2_3_4_5_6_7_8_9_13_24_25__0_10_11_12_14_15_16_17_18_19_20_21_22_23 rfl rfl rfl rfl rfl (Nat.le_of_ble_eq_true rfl) rm_6_5_4 ⟨Nat.le_of_ble_eq_true rfl, Nat.le_of_ble_eq_true rfl⟩ gX11_knownFrom_0.2.2.2.1 (Ktu8 fun cl13073 gclm3074 gfi3075 gla3076 gml3077 gmm3078 gsl3079 gsm3080 => ?_)
  intro H locs hr3071 hP hD hS
  try dsimp only at hr3071
  refine Kpdr (ws := [(h0, oX11 bb kk ikp sg do9 ru9 ta9 tp9 ro9 ho9 de9), (ru9, oX6 bb sg fc sh r1 rc rh), (fc, iA G 5 ffc), (sh, iA G 8 fsh), (bversions, oX8 8 3 bversionsc (nI kbversions)), (bversionsc, iA G 24 fbversions), (bpersons, oX8 10 2 bpersonsc (nI kbpersons)), (bpersonsc, iA G 20 fbpersons), (bpapers, oX8 12 6 bpapersc (nI kbpapers)), (bpapersc, iA G 72 fbpapers), (blines, oX8 72 7 blinesc (nI kblines)), (blinesc, iA G 504 fblines), (bsteps, oX8 960 1 bstepsc (nI kbsteps)), (bstepsc, iA G 960 fbsteps), (sg, oX7 bb clk fi la ml mm sl sm cl13073), (clk, oX1 clm), (clm, iA G 36 gclm3074), (fi, iA G 12 gfi3075), (la, iA G 12 gla3076), (ml, iA G 12 gml3077), (mm, iA G 12 gmm3078), (sl, iA G 12 gsl3079), (sm, iA G 12 gsm3080), (bb, oX0 bpersons bpapers bstamps bversions blines bsteps bsayings bfindings bwarnings bquestions td vd vl gp), (bstamps, oX8 24 3 bstampsc (nI kbstamps)), (bstampsc, iA G 72 fbstamps)]) hP hD (fun hP hD => ?_)
  have w3081 := hr3071
  refine lv_iload_n hx hb gX11_knownFrom_0.2.2.2.2.1 rfl (lv_at3 hl) ?_
  refine lv_iconst (v := 2) hx hb gX11_knownFrom_0.2.2.2.2.2.1 (by decide) ?_
  refine lv_icmp_eq (tgt := 33) hx hb gX11_knownFrom_0.2.2.2.2.2.2.1 (by decide) (fun c_11_3082 => ?_) (fun c_11_3082 => ?_)
  · refine lv_aload_n hx hb gX11_knownFrom_1.2.2.2.2.2.2.2.2.1 rfl (lv_at0 hl) ?_
    refine gf_X11_44 hC rfl hK hP 0 rfl rfl gX11_knownFrom_1.2.2.2.2.2.2.2.2.2 ?_
    refine lv_iload_n hx hb gX11_knownFrom_2.1 rfl (lv_at1 hl) ?_
    refine lv_iload hx hb gX11_knownFrom_2.2.1 (lv_at4 hl) ?_
    refine vV (wr := [(h0, oX11 bb kk ikp sg do9 ru9 ta9 tp9 ro9 ho9 de9), (clk, oX1 clm), (clm, iA G 36 gclm3074), (fi, iA G 12 gfi3075), (bstamps, oX8 24 3 bstampsc (nI kbstamps)), (bstampsc, iA G 72 fbstamps)]) hC hK hl hP hD hS hA (c_settle l G ru9 x1 x4 bb sg fc sh r1 rc rh ffc fsh clk fi la ml mm sl sm cl13073 gla3076 gml3077 gmm3078 gsl3079 gsm3080 bpersons bpapers bstamps bversions blines bsteps bsayings bfindings bwarnings bquestions td vd vl gp bversionsc kbversions fbversions bpersonsc kbpersons fbpersons bpapersc kbpapers fbpapers blinesc kblines fblines bstepsc kbsteps fbsteps (hkbversions) (hkbpersons) (hkbpapers) (hkblines) (hkbsteps)) si_X11_243 [1, 2, 3, 14, 18, 19, 20, 21, 22, 23, 4, 5, 6, 7, 8, 9, 10, 11, 12, 13] [0, 15, 16, 17, 24, 25] sm_1_2_3_14_18_19_20_21_22_23_4_5_6_7_8_9_10_11_12_13 fm_1_2_3_14_18_19_20_21_22_23_4_5_6_7_8_9_10_11_12_13 nd_1_2_3_14_18_19_20_21_22_23_4_5_6_7_8_9_10_11_12_13 sm_0_15_16_17_24_25 nd_0_15_16_17_24_25 dj_1_2_3_14_18_19_20_21_22_23_4_5_6_7_8_9_10_11_12_13__0_15_16_17_24_25 rfl rfl rfl rfl rfl (Nat.le_of_ble_eq_true rfl) rm_6_5_5 ⟨Nat.le_of_ble_eq_true rfl, Nat.le_of_ble_eq_true rfl⟩ gX11_knownFrom_2.2.2.1 (Ktu5 fun r113085 rc13086 rh13087 gfc3088 gsh3089 => ?_)
    intro H locs hr3083 hP hD hS
    try dsimp only at hr3083
    refine Kpdr (ws := [(h0, oX11 bb kk ikp sg do9 ru9 ta9 tp9 ro9 ho9 de9), (clk, oX1 clm), (clm, iA G 36 gclm3074), (fi, iA G 12 gfi3075), (bstamps, oX8 24 3 bstampsc (nI kbstamps)), (bstampsc, iA G 72 fbstamps), (ru9, oX6 bb sg fc sh r113085 rc13086 rh13087), (fc, iA G 5 gfc3088), (sh, iA G 8 gsh3089), (sg, oX7 bb clk fi la ml mm sl sm cl13073), (la, iA G 12 gla3076), (ml, iA G 12 gml3077), (mm, iA G 12 gmm3078), (sl, iA G 12 gsl3079), (sm, iA G 12 gsm3080), (bb, oX0 bpersons bpapers bstamps bversions blines bsteps bsayings bfindings bwarnings bquestions td vd vl gp), (bversions, oX8 8 3 bversionsc (nI kbversions)), (bversionsc, iA G 24 fbversions), (bpersons, oX8 10 2 bpersonsc (nI kbpersons)), (bpersonsc, iA G 20 fbpersons), (bpapers, oX8 12 6 bpapersc (nI kbpapers)), (bpapersc, iA G 72 fbpapers), (blines, oX8 72 7 blinesc (nI kblines)), (blinesc, iA G 504 fblines), (bsteps, oX8 960 1 bstepsc (nI kbsteps)), (bstepsc, iA G 960 fbsteps)]) hP hD (fun hP hD => ?_)
    refine lv_aload_n hx hb gX11_knownFrom_2.2.2.2.1 rfl (lv_at0 hl) ?_
    refine gf_X11_44 hC rfl hK hP 0 rfl rfl gX11_knownFrom_2.2.2.2.2.1 ?_
    refine lv_iload_n hx hb gX11_knownFrom_2.2.2.2.2.2.1 rfl (lv_at2 hl) ?_
    refine pV hC hK hl hP hD (c_shouldHour l G ru9 x2 bb sg fc sh r113085 rc13086 rh13087 gsh3089) si_X11_247 [6, 8] sm_6_8 fm_6_8 nd_6_8 rfl rfl rfl rfl rfl (Nat.le_of_ble_eq_true rfl) rm_6_1_2 ⟨by first | exact Nat.le_of_ble_eq_true rfl | exact Nat.zero_le _, by first | exact Nat.le_of_ble_eq_true rfl | exact Nat.zero_le _⟩ gX11_knownFrom_2.2.2.2.2.2.2.1 (fun r3090 hr3090 => ?_)
    refine toQ hQ0 ?_
    exact RI (v := r3090) hC hP hD hS [0, 9, 1, 2, 3, 10, 11, 12, 13, 14, 6, 7, 8, 15, 16, 17, 18, 19, 20, 21, 22, 23, 24, 25, 4, 5] (cl13073, gclm3074, gfi3075, gla3076, gml3077, gmm3078, gsl3079, gsm3080, r113085, rc13086, rh13087, gfc3088, gsh3089) rfl rfl (by decide) (⟨trivial, w3081⟩) rfl gX11_knownFrom_2.2.2.2.2.2.2.2
  · refine lv_aload_n hx hb gX11_knownFrom_0.2.2.2.2.2.2.2.1 rfl (lv_at0 hl) ?_
    refine gf_X11_28 hC rfl hK hP 0 rfl rfl gX11_knownFrom_0.2.2.2.2.2.2.2.2.1 ?_
    refine lv_iload_n hx hb gX11_knownFrom_0.2.2.2.2.2.2.2.2.2 rfl (lv_at1 hl) ?_
    refine lv_iload_n hx hb gX11_knownFrom_1.1 rfl (lv_at2 hl) ?_
    refine lv_iload_n hx hb gX11_knownFrom_1.2.1 rfl (lv_at3 hl) ?_
    refine lv_if_ne (tgt := 28) hx hb gX11_knownFrom_1.2.2.1 (by decide) (fun c_21_3091 => ?_) (fun c_21_3091 => ?_)
    · refine lv_iconst (v := 0) hx hb gX11_knownFrom_1.2.2.2.2.2.1 (by decide) ?_
      refine pV hC hK hl hP hD (c_toldHour l G sg x1 x2 0 bb clk fi la ml mm sl sm cl13073 gla3076 gml3077 gmm3078 gsl3079 gsm3080 bpersons bpapers bstamps bversions blines bsteps bsayings bfindings bwarnings bquestions td vd vl gp bpapersc kbpapers fbpapers bpersonsc kbpersons fbpersons (hkbpapers) (hkbpersons)) si_X11_250 [14, 18, 19, 20, 21, 22, 23, 8, 9, 6, 7] sm_14_18_19_20_21_22_23_8_9_6_7 fm_14_18_19_20_21_22_23_8_9_6_7 nd_14_18_19_20_21_22_23_8_9_6_7 rfl rfl rfl rfl rfl (Nat.le_of_ble_eq_true rfl) rm_6_4_6 ⟨by first | exact Nat.le_of_ble_eq_true rfl | exact Nat.zero_le _, by first | exact Nat.le_of_ble_eq_true rfl | exact Nat.zero_le _⟩ gX11_knownFrom_1.2.2.2.2.2.2.1 (fun r3092 hr3092 => ?_)
      refine toQ hQ0 ?_
      exact RI (v := r3092) hC hP hD hS [0, 14, 15, 16, 17, 18, 19, 20, 21, 22, 1, 2, 3, 23, 4, 5, 6, 7, 8, 9, 10, 11, 12, 13, 24, 25] (cl13073, gclm3074, gfi3075, gla3076, gml3077, gmm3078, gsl3079, gsm3080, r1, rc, rh, ffc, fsh) rfl rfl (by decide) (⟨trivial, w3081⟩) rfl gX11_knownFrom_1.2.2.2.2.2.2.2.1
    · refine lv_iconst (v := 1) hx hb gX11_knownFrom_1.2.2.2.1 (by decide) ?_
      refine lv_goto (tgt := 29) hx hb gX11_knownFrom_1.2.2.2.2.1 (by decide) ?_
      refine pV hC hK hl hP hD (c_toldHour l G sg x1 x2 1 bb clk fi la ml mm sl sm cl13073 gla3076 gml3077 gmm3078 gsl3079 gsm3080 bpersons bpapers bstamps bversions blines bsteps bsayings bfindings bwarnings bquestions td vd vl gp bpapersc kbpapers fbpapers bpersonsc kbpersons fbpersons (hkbpapers) (hkbpersons)) si_X11_250 [14, 18, 19, 20, 21, 22, 23, 8, 9, 6, 7] sm_14_18_19_20_21_22_23_8_9_6_7 fm_14_18_19_20_21_22_23_8_9_6_7 nd_14_18_19_20_21_22_23_8_9_6_7 rfl rfl rfl rfl rfl (Nat.le_of_ble_eq_true rfl) rm_6_4_6 ⟨by first | exact Nat.le_of_ble_eq_true rfl | exact Nat.zero_le _, by first | exact Nat.le_of_ble_eq_true rfl | exact Nat.zero_le _⟩ gX11_knownFrom_1.2.2.2.2.2.2.1 (fun r3093 hr3093 => ?_)
      refine toQ hQ0 ?_
      exact RI (v := r3093) hC hP hD hS [0, 14, 15, 16, 17, 18, 19, 20, 21, 22, 1, 2, 3, 23, 4, 5, 6, 7, 8, 9, 10, 11, 12, 13, 24, 25] (cl13073, gclm3074, gfi3075, gla3076, gml3077, gmm3078, gsl3079, gsm3080, r1, rc, rh, ffc, fsh) rfl rfl (by decide) (⟨trivial, w3081⟩) rfl gX11_knownFrom_1.2.2.2.2.2.2.2.1
def K_p_knew (l : Launch) (G : GG) (h0 : Nat) (x1 : Int32) (x2 : Int32) (x3 : Int32) (bb : Nat) (kk : Nat) (ikp : Int32) (sg : Nat) (do9 : Nat) (ru9 : Nat) (ta9 : Nat) (tp9 : Nat) (ro9 : Nat) (ho9 : Nat) (de9 : Nat) (clk : Nat) (fi : Nat) (la : Nat) (ml : Nat) (mm : Nat) (sl : Nat) (sm : Nat) (cl : Int32) (clm : Nat) (fclm : Nat → Int32) (ffi : Nat → Int32) (fla : Nat → Int32) (fml : Nat → Int32) (fmm : Nat → Int32) (fsl : Nat → Int32) (fsm : Nat → Int32) (fc : Nat) (sh : Nat) (r1 : Int32) (rc : Int32) (rh : Int32) (ffc : Nat → Int32) (fsh : Nat → Int32) (bpersons : Nat) (bpapers : Nat) (bstamps : Nat) (bversions : Nat) (blines : Nat) (bsteps : Nat) (bsayings : Nat) (bfindings : Nat) (bwarnings : Nat) (bquestions : Nat) (td : Int32) (vd : Int32) (vl : Int32) (gp : Int32) (bversionsc : Nat) (kbversions : Nat) (fbversions : Nat → Int32) (bpersonsc : Nat) (kbpersons : Nat) (fbpersons : Nat → Int32) (bpapersc : Nat) (kbpapers : Nat) (fbpapers : Nat → Int32) (blinesc : Nat) (kblines : Nat) (fblines : Nat → Int32) (bstepsc : Nat) (kbsteps : Nat) (fbsteps : Nat → Int32) (bstampsc : Nat) (kbstamps : Nat) (fbstamps : Nat → Int32) : Prop := MI l G yX11_knew cX11_knew 5 (some .int) 7 0 0 [.ref h0, .int x1, .int x2, .int x3] [(h0, oX11 bb kk ikp sg do9 ru9 ta9 tp9 ro9 ho9 de9), (sg, oX7 bb clk fi la ml mm sl sm cl), (clk, oX1 clm), (clm, iA G 36 fclm), (fi, iA G 12 ffi), (la, iA G 12 fla), (ml, iA G 12 fml), (mm, iA G 12 fmm), (sl, iA G 12 fsl), (sm, iA G 12 fsm), (ru9, oX6 bb sg fc sh r1 rc rh), (fc, iA G 5 ffc), (sh, iA G 8 fsh), (bb, oX0 bpersons bpapers bstamps bversions blines bsteps bsayings bfindings bwarnings bquestions td vd vl gp), (bversions, oX8 8 3 bversionsc (nI kbversions)), (bversionsc, iA G 24 fbversions), (bpersons, oX8 10 2 bpersonsc (nI kbpersons)), (bpersonsc, iA G 20 fbpersons), (bpapers, oX8 12 6 bpapersc (nI kbpapers)), (bpapersc, iA G 72 fbpapers), (blines, oX8 72 7 blinesc (nI kblines)), (blinesc, iA G 504 fblines), (bsteps, oX8 960 1 bstepsc (nI kbsteps)), (bstepsc, iA G 960 fbsteps), (bstamps, oX8 24 3 bstampsc (nI kbstamps)), (bstampsc, iA G 72 fbstamps)] (fun (r : Int32) (u : Int32 × (Nat → Int32) × (Nat → Int32) × (Nat → Int32) × (Nat → Int32) × (Nat → Int32) × (Nat → Int32) × (Nat → Int32) × Int32 × Int32 × Int32 × (Nat → Int32) × (Nat → Int32)) => (True) ∧ (u.1 = 0 ∨ u.1 = 1)) (fun u : Int32 × (Nat → Int32) × (Nat → Int32) × (Nat → Int32) × (Nat → Int32) × (Nat → Int32) × (Nat → Int32) × (Nat → Int32) × Int32 × Int32 × Int32 × (Nat → Int32) × (Nat → Int32) => [(h0, oX11 bb kk ikp sg do9 ru9 ta9 tp9 ro9 ho9 de9), (sg, oX7 bb clk fi la ml mm sl sm u.1), (clk, oX1 clm), (clm, iA G 36 u.2.1), (fi, iA G 12 u.2.2.1), (la, iA G 12 u.2.2.2.1), (ml, iA G 12 u.2.2.2.2.1), (mm, iA G 12 u.2.2.2.2.2.1), (sl, iA G 12 u.2.2.2.2.2.2.1), (sm, iA G 12 u.2.2.2.2.2.2.2.1), (ru9, oX6 bb sg fc sh u.2.2.2.2.2.2.2.2.1 u.2.2.2.2.2.2.2.2.2.1 u.2.2.2.2.2.2.2.2.2.2.1), (fc, iA G 5 u.2.2.2.2.2.2.2.2.2.2.2.1), (sh, iA G 8 u.2.2.2.2.2.2.2.2.2.2.2.2), (bb, oX0 bpersons bpapers bstamps bversions blines bsteps bsayings bfindings bwarnings bquestions td vd vl gp), (bversions, oX8 8 3 bversionsc (nI kbversions)), (bversionsc, iA G 24 fbversions), (bpersons, oX8 10 2 bpersonsc (nI kbpersons)), (bpersonsc, iA G 20 fbpersons), (bpapers, oX8 12 6 bpapersc (nI kbpapers)), (bpapersc, iA G 72 fbpapers), (blines, oX8 72 7 blinesc (nI kblines)), (blinesc, iA G 504 fblines), (bsteps, oX8 960 1 bstepsc (nI kbsteps)), (bstepsc, iA G 960 fbsteps), (bstamps, oX8 24 3 bstampsc (nI kbstamps)), (bstampsc, iA G 72 fbstamps)])
set_option maxHeartbeats 4000000 in
set_option maxRecDepth 100000 in
theorem p_knew (l : Launch) (G : GG) (h0 : Nat) (x1 : Int32) (x2 : Int32) (x3 : Int32) (bb : Nat) (kk : Nat) (ikp : Int32) (sg : Nat) (do9 : Nat) (ru9 : Nat) (ta9 : Nat) (tp9 : Nat) (ro9 : Nat) (ho9 : Nat) (de9 : Nat) (clk : Nat) (fi : Nat) (la : Nat) (ml : Nat) (mm : Nat) (sl : Nat) (sm : Nat) (cl : Int32) (clm : Nat) (fclm : Nat → Int32) (ffi : Nat → Int32) (fla : Nat → Int32) (fml : Nat → Int32) (fmm : Nat → Int32) (fsl : Nat → Int32) (fsm : Nat → Int32) (fc : Nat) (sh : Nat) (r1 : Int32) (rc : Int32) (rh : Int32) (ffc : Nat → Int32) (fsh : Nat → Int32) (bpersons : Nat) (bpapers : Nat) (bstamps : Nat) (bversions : Nat) (blines : Nat) (bsteps : Nat) (bsayings : Nat) (bfindings : Nat) (bwarnings : Nat) (bquestions : Nat) (td : Int32) (vd : Int32) (vl : Int32) (gp : Int32) (bversionsc : Nat) (kbversions : Nat) (fbversions : Nat → Int32) (bpersonsc : Nat) (kbpersons : Nat) (fbpersons : Nat → Int32) (bpapersc : Nat) (kbpapers : Nat) (fbpapers : Nat → Int32) (blinesc : Nat) (kblines : Nat) (fblines : Nat → Int32) (bstepsc : Nat) (kbsteps : Nat) (fbsteps : Nat → Int32) (bstampsc : Nat) (kbstamps : Nat) (fbstamps : Nat → Int32) (hkbversions : kbversions ≤ 8) (hkbpersons : kbpersons ≤ 10) (hkbpapers : kbpapers ≤ 12) (hkblines : kblines ≤ 72) (hkbsteps : kbsteps ≤ 960) (hkbstamps : kbstamps ≤ 24) (hcl : cl = 0 ∨ cl = 1) : K_p_knew l G h0 x1 x2 x3 bb kk ikp sg do9 ru9 ta9 tp9 ro9 ho9 de9 clk fi la ml mm sl sm cl clm fclm ffi fla fml fmm fsl fsm fc sh r1 rc rh ffc fsh bpersons bpapers bstamps bversions blines bsteps bsayings bfindings bwarnings bquestions td vd vl gp bversionsc kbversions fbversions bpersonsc kbpersons fbpersons bpapersc kbpapers fbpapers blinesc kblines fblines bstepsc kbsteps fbsteps bstampsc kbstamps fbstamps := by
  refine MI.start (by decide +kernel) (Nat.le_of_ble_eq_true rfl) ?_
  intro p e s m below meth c A ls hC hK hP hD hS hA hl
  refine absQ (fun Q0 hQ0 => ?_)
  have hl : lv_has ls 5 [(0, .ref h0), (1, .int x1), (2, .int x2), (3, .int x3)] := hl
  refine Kan8 hC (fun hx hb hr hml hB hown hlocks hnm => ?_)
  refine lv_aload_n hx hb gX11_knew_0.1 rfl (lv_at0 hl) ?_
  refine gf_X11_15 hC rfl hK hP 0 rfl rfl gX11_knew_0.2.1 ?_
  refine gf_X11_107 hC rfl hK hP 13 rfl rfl gX11_knew_0.2.2.1 ?_
  refine lv_iload_n hx hb gX11_knew_0.2.2.2.1 rfl (lv_at1 hl) ?_
  refine pV hC hK hl hP hD (c_T_has l G bpersons x1 10 2 bpersonsc kbpersons) si_X11_124 [16] sm_16 fm_16 nd_16 rfl rfl rfl rfl rfl (Nat.le_of_ble_eq_true rfl) rm_7_1_2 ⟨by first | exact Nat.le_of_ble_eq_true rfl | exact Nat.zero_le _, by first | exact Nat.le_of_ble_eq_true rfl | exact Nat.zero_le _⟩ gX11_knew_0.2.2.2.2.1 (Kors (Keqa fun a3095 => ?_) (Keqa fun a3095 => ?_))
  · refine lv_if_eq (tgt := 28) hx hb gX11_knew_0.2.2.2.2.2.1 (by decide) (fun c9 => absurd c9 (by decide)) (fun _ => ?_)
    refine lv_iload_n hx hb gX11_knew_0.2.2.2.2.2.2.1 rfl (lv_at2 hl) ?_
    refine pS hC hK hl (c_isThing l G x2) si_X11_213 rfl rfl (Nat.le_of_ble_eq_true rfl) rm_7_2_1 ⟨by first | exact Nat.le_of_ble_eq_true rfl | exact Nat.zero_le _, by first | exact Nat.le_of_ble_eq_true rfl | exact Nat.zero_le _⟩ gX11_knew_0.2.2.2.2.2.2.2.1 (Kors (Keqa fun a3097 => ?_) (Keqa fun a3097 => ?_))
    · refine lv_if_eq (tgt := 28) hx hb gX11_knew_0.2.2.2.2.2.2.2.2.1 (by decide) (fun c9 => absurd c9 (by decide)) (fun _ => ?_)
      refine lv_iload_n hx hb gX11_knew_0.2.2.2.2.2.2.2.2.2 rfl (lv_at3 hl) ?_
      refine pS hC hK hl (c_isWay l G x3) si_X11_216 rfl rfl (Nat.le_of_ble_eq_true rfl) rm_7_2_1 ⟨by first | exact Nat.le_of_ble_eq_true rfl | exact Nat.zero_le _, by first | exact Nat.le_of_ble_eq_true rfl | exact Nat.zero_le _⟩ gX11_knew_1.1 (Kors (Keqa fun a3099 => ?_) (Keqa fun a3099 => ?_))
      · refine lv_if_ne (tgt := 30) hx hb gX11_knew_1.2.1 (by decide) (fun _ => ?_) (fun c9 => absurd c9 (by decide))
        refine lv_aload_n hx hb gX11_knew_1.2.2.2.2.1 rfl (lv_at0 hl) ?_
        refine lv_iload_n hx hb gX11_knew_1.2.2.2.2.2.1 rfl (lv_at1 hl) ?_
        refine lv_iload_n hx hb gX11_knew_1.2.2.2.2.2.2.1 rfl (lv_at2 hl) ?_
        refine lv_iload_n hx hb gX11_knew_1.2.2.2.2.2.2.2.1 rfl (lv_at3 hl) ?_
        refine lv_aload_n hx hb gX11_knew_1.2.2.2.2.2.2.2.2.1 rfl (lv_at0 hl) ?_
        refine gf_X11_15 hC rfl hK hP 0 rfl rfl gX11_knew_1.2.2.2.2.2.2.2.2.2 ?_
        refine pV hC hK hl hP hD (c_inView l G bb bpersons bpapers bstamps bversions blines bsteps bsayings bfindings bwarnings bquestions td vd vl gp bpapersc kbpapers fbpapers (hkbpapers)) si_X11_97 [13, 18, 19] sm_13_18_19 fm_13_18_19 nd_13_18_19 rfl rfl rfl rfl rfl (Nat.le_of_ble_eq_true rfl) rm_7_3_6 ⟨by first | exact Nat.le_of_ble_eq_true rfl | exact Nat.zero_le _, by first | exact Nat.le_of_ble_eq_true rfl | exact Nat.zero_le _⟩ gX11_knew_2.1 (fun r3100 hr3100 => ?_)
        refine iV (wr := []) hC hK hl hP hD hS hA (c_known l G h0 x1 x2 x3 r3100 bb kk ikp sg do9 ru9 ta9 tp9 ro9 ho9 de9 clk fi la ml mm sl sm cl clm fclm ffi fla fml fmm fsl fsm fc sh r1 rc rh ffc fsh bpersons bpapers bstamps bversions blines bsteps bsayings bfindings bwarnings bquestions td vd vl gp bversionsc kbversions fbversions bpersonsc kbpersons fbpersons bpapersc kbpapers fbpapers blinesc kblines fblines bstepsc kbsteps fbsteps bstampsc kbstamps fbstamps (hkbversions) (hkbpersons) (hkbpapers) (hkblines) (hkbsteps) (hkbstamps)) si_X11_219 [0, 1, 2, 3, 4, 5, 6, 7, 8, 9, 10, 11, 12, 13, 14, 15, 16, 17, 18, 19, 20, 21, 22, 23, 24, 25] [] sm_0_1_2_3_4_5_6_7_8_9_10_11_12_13_14_15_16_17_18_19_20_21_22_23_24_25 fm_0_1_2_3_4_5_6_7_8_9_10_11_12_13_14_15_16_17_18_19_20_21_22_23_24_25 nd_0_1_2_3_4_5_6_7_8_9_10_11_12_13_14_15_16_17_18_19_20_21_22_23_24_25 rfl rfl (by decide) rfl rfl rfl rfl rfl (Nat.le_of_ble_eq_true rfl) rm_7_6_5 ⟨Nat.le_of_ble_eq_true rfl, Nat.le_of_ble_eq_true rfl⟩ gX11_knew_2.2.1 (fun r3101 => Ktu13 fun cl13103 gclm3104 gfi3105 gla3106 gml3107 gmm3108 gsl3109 gsm3110 r113111 rc13112 rh13113 gfc3114 gsh3115 => ?_)
        intro H locs hr3101 hP hD hS
        try dsimp only at hr3101
        refine Kpdr (ws := [(h0, oX11 bb kk ikp sg do9 ru9 ta9 tp9 ro9 ho9 de9), (sg, oX7 bb clk fi la ml mm sl sm cl13103), (clk, oX1 clm), (clm, iA G 36 gclm3104), (fi, iA G 12 gfi3105), (la, iA G 12 gla3106), (ml, iA G 12 gml3107), (mm, iA G 12 gmm3108), (sl, iA G 12 gsl3109), (sm, iA G 12 gsm3110), (ru9, oX6 bb sg fc sh r113111 rc13112 rh13113), (fc, iA G 5 gfc3114), (sh, iA G 8 gsh3115), (bb, oX0 bpersons bpapers bstamps bversions blines bsteps bsayings bfindings bwarnings bquestions td vd vl gp), (bversions, oX8 8 3 bversionsc (nI kbversions)), (bversionsc, iA G 24 fbversions), (bpersons, oX8 10 2 bpersonsc (nI kbpersons)), (bpersonsc, iA G 20 fbpersons), (bpapers, oX8 12 6 bpapersc (nI kbpapers)), (bpapersc, iA G 72 fbpapers), (blines, oX8 72 7 blinesc (nI kblines)), (blinesc, iA G 504 fblines), (bsteps, oX8 960 1 bstepsc (nI kbsteps)), (bstepsc, iA G 960 fbsteps), (bstamps, oX8 24 3 bstampsc (nI kbstamps)), (bstampsc, iA G 72 fbstamps)]) hP hD (fun hP hD => ?_)
        obtain ⟨hr3101, w3116⟩ := hr3101
        refine lv_istore (lv' := [(4, .int r3101), (0, .ref h0), (1, .int x1), (2, .int x2), (3, .int x3)]) hx hb gX11_knew_2.2.2.1 hl (by decide) rfl (fun ls hl => ?_)
        refine lv_iload hx hb gX11_knew_2.2.2.2.1 (lv_at0 hl) ?_
        refine lv_ldc hx hb hown (hB _ m_599) gX11_knew_2.2.2.2.2.1 ?_
        refine lv_icmp_ne (tgt := 58) hx hb gX11_knew_2.2.2.2.2.2.1 (by decide) (fun c_50_3117 => ?_) (fun c_50_3117 => ?_)
        · refine lv_iload hx hb gX11_knew_2.2.2.2.2.2.2.2.2.1 (lv_at0 hl) ?_
          refine lv_sipush (v := 1000) hx hb gX11_knew_2.2.2.2.2.2.2.2.2.2 (by decide) ?_
          refine lv_iadd hx hb gX11_knew_3.1 ?_
          refine toQ hQ0 ?_
          exact RI (v := r3101 + 1000) hC hP hD hS [0, 1, 2, 3, 4, 5, 6, 7, 8, 9, 10, 11, 12, 13, 14, 15, 16, 17, 18, 19, 20, 21, 22, 23, 24, 25] (cl13103, gclm3104, gfi3105, gla3106, gml3107, gmm3108, gsl3109, gsm3110, r113111, rc13112, rh13113, gfc3114, gsh3115) rfl rfl (by decide) (⟨trivial, w3116⟩) rfl gX11_knew_3.2
        · refine lv_bipush (v := (-3)) hx hb gX11_knew_2.2.2.2.2.2.2.1 (by decide) ?_
          refine lv_goto (tgt := 64) hx hb gX11_knew_2.2.2.2.2.2.2.2.1 (by decide) ?_
          refine toQ hQ0 ?_
          exact RI (v := (-3)) hC hP hD hS [0, 1, 2, 3, 4, 5, 6, 7, 8, 9, 10, 11, 12, 13, 14, 15, 16, 17, 18, 19, 20, 21, 22, 23, 24, 25] (cl13103, gclm3104, gfi3105, gla3106, gml3107, gmm3108, gsl3109, gsm3110, r113111, rc13112, rh13113, gfc3114, gsh3115) rfl rfl (by decide) (⟨trivial, w3116⟩) rfl gX11_knew_3.2
      · refine lv_if_ne (tgt := 30) hx hb gX11_knew_1.2.1 (by decide) (fun c9 => absurd (by decide) c9) (fun _ => ?_)
        refine lv_iconst (v := (-1)) hx hb gX11_knew_1.2.2.1 (by decide) ?_
        refine toQ hQ0 ?_
        exact RI (v := (-1)) hC hP hD hS [0, 1, 2, 3, 4, 5, 6, 7, 8, 9, 10, 11, 12, 13, 14, 15, 16, 17, 18, 19, 20, 21, 22, 23, 24, 25] (cl, fclm, ffi, fla, fml, fmm, fsl, fsm, r1, rc, rh, ffc, fsh) rfl rfl (by decide) (⟨trivial, hcl⟩) rfl gX11_knew_1.2.2.2.1
    · refine lv_if_eq (tgt := 28) hx hb gX11_knew_0.2.2.2.2.2.2.2.2.1 (by decide) (fun _ => ?_) (fun c9 => absurd (by decide) c9)
      refine lv_iconst (v := (-1)) hx hb gX11_knew_1.2.2.1 (by decide) ?_
      refine toQ hQ0 ?_
      exact RI (v := (-1)) hC hP hD hS [0, 1, 2, 3, 4, 5, 6, 7, 8, 9, 10, 11, 12, 13, 14, 15, 16, 17, 18, 19, 20, 21, 22, 23, 24, 25] (cl, fclm, ffi, fla, fml, fmm, fsl, fsm, r1, rc, rh, ffc, fsh) rfl rfl (by decide) (⟨trivial, hcl⟩) rfl gX11_knew_1.2.2.2.1
  · refine lv_if_eq (tgt := 28) hx hb gX11_knew_0.2.2.2.2.2.1 (by decide) (fun _ => ?_) (fun c9 => absurd (by decide) c9)
    refine lv_iconst (v := (-1)) hx hb gX11_knew_1.2.2.1 (by decide) ?_
    refine toQ hQ0 ?_
    exact RI (v := (-1)) hC hP hD hS [0, 1, 2, 3, 4, 5, 6, 7, 8, 9, 10, 11, 12, 13, 14, 15, 16, 17, 18, 19, 20, 21, 22, 23, 24, 25] (cl, fclm, ffi, fla, fml, fmm, fsl, fsm, r1, rc, rh, ffc, fsh) rfl rfl (by decide) (⟨trivial, hcl⟩) rfl gX11_knew_1.2.2.2.1
def K_p_why (l : Launch) (G : GG) (h0 : Nat) (x1 : Int32) (x2 : Int32) (bb : Nat) (kk : Nat) (ikp : Int32) (sg : Nat) (do9 : Nat) (ru9 : Nat) (ta9 : Nat) (tp9 : Nat) (ro9 : Nat) (ho9 : Nat) (de9 : Nat) (clk : Nat) (fi : Nat) (la : Nat) (ml : Nat) (mm : Nat) (sl : Nat) (sm : Nat) (cl : Int32) (clm : Nat) (fclm : Nat → Int32) (ffi : Nat → Int32) (fla : Nat → Int32) (fml : Nat → Int32) (fmm : Nat → Int32) (fsl : Nat → Int32) (fsm : Nat → Int32) (fc : Nat) (sh : Nat) (r1 : Int32) (rc : Int32) (rh : Int32) (ffc : Nat → Int32) (fsh : Nat → Int32) (bpersons : Nat) (bpapers : Nat) (bstamps : Nat) (bversions : Nat) (blines : Nat) (bsteps : Nat) (bsayings : Nat) (bfindings : Nat) (bwarnings : Nat) (bquestions : Nat) (td : Int32) (vd : Int32) (vl : Int32) (gp : Int32) (bversionsc : Nat) (kbversions : Nat) (fbversions : Nat → Int32) (bpersonsc : Nat) (kbpersons : Nat) (fbpersons : Nat → Int32) (bpapersc : Nat) (kbpapers : Nat) (fbpapers : Nat → Int32) (blinesc : Nat) (kblines : Nat) (fblines : Nat → Int32) (bstepsc : Nat) (kbsteps : Nat) (fbsteps : Nat → Int32) (bstampsc : Nat) (kbstamps : Nat) (fbstamps : Nat → Int32) : Prop := MI l G yX11_why cX11_why 5 (some .int) 7 0 0 [.ref h0, .int x1, .int x2] [(h0, oX11 bb kk ikp sg do9 ru9 ta9 tp9 ro9 ho9 de9), (sg, oX7 bb clk fi la ml mm sl sm cl), (clk, oX1 clm), (clm, iA G 36 fclm), (fi, iA G 12 ffi), (la, iA G 12 fla), (ml, iA G 12 fml), (mm, iA G 12 fmm), (sl, iA G 12 fsl), (sm, iA G 12 fsm), (ru9, oX6 bb sg fc sh r1 rc rh), (fc, iA G 5 ffc), (sh, iA G 8 fsh), (bb, oX0 bpersons bpapers bstamps bversions blines bsteps bsayings bfindings bwarnings bquestions td vd vl gp), (bversions, oX8 8 3 bversionsc (nI kbversions)), (bversionsc, iA G 24 fbversions), (bpersons, oX8 10 2 bpersonsc (nI kbpersons)), (bpersonsc, iA G 20 fbpersons), (bpapers, oX8 12 6 bpapersc (nI kbpapers)), (bpapersc, iA G 72 fbpapers), (blines, oX8 72 7 blinesc (nI kblines)), (blinesc, iA G 504 fblines), (bsteps, oX8 960 1 bstepsc (nI kbsteps)), (bstepsc, iA G 960 fbsteps), (bstamps, oX8 24 3 bstampsc (nI kbstamps)), (bstampsc, iA G 72 fbstamps)] (fun (r : Int32) (u : Int32 × (Nat → Int32) × (Nat → Int32) × (Nat → Int32) × (Nat → Int32) × (Nat → Int32) × (Nat → Int32) × (Nat → Int32) × Int32 × Int32 × Int32 × (Nat → Int32) × (Nat → Int32)) => (True) ∧ (u.1 = 0 ∨ u.1 = 1)) (fun u : Int32 × (Nat → Int32) × (Nat → Int32) × (Nat → Int32) × (Nat → Int32) × (Nat → Int32) × (Nat → Int32) × (Nat → Int32) × Int32 × Int32 × Int32 × (Nat → Int32) × (Nat → Int32) => [(h0, oX11 bb kk ikp sg do9 ru9 ta9 tp9 ro9 ho9 de9), (sg, oX7 bb clk fi la ml mm sl sm u.1), (clk, oX1 clm), (clm, iA G 36 u.2.1), (fi, iA G 12 u.2.2.1), (la, iA G 12 u.2.2.2.1), (ml, iA G 12 u.2.2.2.2.1), (mm, iA G 12 u.2.2.2.2.2.1), (sl, iA G 12 u.2.2.2.2.2.2.1), (sm, iA G 12 u.2.2.2.2.2.2.2.1), (ru9, oX6 bb sg fc sh u.2.2.2.2.2.2.2.2.1 u.2.2.2.2.2.2.2.2.2.1 u.2.2.2.2.2.2.2.2.2.2.1), (fc, iA G 5 u.2.2.2.2.2.2.2.2.2.2.2.1), (sh, iA G 8 u.2.2.2.2.2.2.2.2.2.2.2.2), (bb, oX0 bpersons bpapers bstamps bversions blines bsteps bsayings bfindings bwarnings bquestions td vd vl gp), (bversions, oX8 8 3 bversionsc (nI kbversions)), (bversionsc, iA G 24 fbversions), (bpersons, oX8 10 2 bpersonsc (nI kbpersons)), (bpersonsc, iA G 20 fbpersons), (bpapers, oX8 12 6 bpapersc (nI kbpapers)), (bpapersc, iA G 72 fbpapers), (blines, oX8 72 7 blinesc (nI kblines)), (blinesc, iA G 504 fblines), (bsteps, oX8 960 1 bstepsc (nI kbsteps)), (bstepsc, iA G 960 fbsteps), (bstamps, oX8 24 3 bstampsc (nI kbstamps)), (bstampsc, iA G 72 fbstamps)])
set_option maxHeartbeats 4000000 in
set_option maxRecDepth 100000 in
theorem p_why (l : Launch) (G : GG) (h0 : Nat) (x1 : Int32) (x2 : Int32) (bb : Nat) (kk : Nat) (ikp : Int32) (sg : Nat) (do9 : Nat) (ru9 : Nat) (ta9 : Nat) (tp9 : Nat) (ro9 : Nat) (ho9 : Nat) (de9 : Nat) (clk : Nat) (fi : Nat) (la : Nat) (ml : Nat) (mm : Nat) (sl : Nat) (sm : Nat) (cl : Int32) (clm : Nat) (fclm : Nat → Int32) (ffi : Nat → Int32) (fla : Nat → Int32) (fml : Nat → Int32) (fmm : Nat → Int32) (fsl : Nat → Int32) (fsm : Nat → Int32) (fc : Nat) (sh : Nat) (r1 : Int32) (rc : Int32) (rh : Int32) (ffc : Nat → Int32) (fsh : Nat → Int32) (bpersons : Nat) (bpapers : Nat) (bstamps : Nat) (bversions : Nat) (blines : Nat) (bsteps : Nat) (bsayings : Nat) (bfindings : Nat) (bwarnings : Nat) (bquestions : Nat) (td : Int32) (vd : Int32) (vl : Int32) (gp : Int32) (bversionsc : Nat) (kbversions : Nat) (fbversions : Nat → Int32) (bpersonsc : Nat) (kbpersons : Nat) (fbpersons : Nat → Int32) (bpapersc : Nat) (kbpapers : Nat) (fbpapers : Nat → Int32) (blinesc : Nat) (kblines : Nat) (fblines : Nat → Int32) (bstepsc : Nat) (kbsteps : Nat) (fbsteps : Nat → Int32) (bstampsc : Nat) (kbstamps : Nat) (fbstamps : Nat → Int32) (hkbversions : kbversions ≤ 8) (hkbpersons : kbpersons ≤ 10) (hkbpapers : kbpapers ≤ 12) (hkblines : kblines ≤ 72) (hkbsteps : kbsteps ≤ 960) (hkbstamps : kbstamps ≤ 24) (hcl : cl = 0 ∨ cl = 1) : K_p_why l G h0 x1 x2 bb kk ikp sg do9 ru9 ta9 tp9 ro9 ho9 de9 clk fi la ml mm sl sm cl clm fclm ffi fla fml fmm fsl fsm fc sh r1 rc rh ffc fsh bpersons bpapers bstamps bversions blines bsteps bsayings bfindings bwarnings bquestions td vd vl gp bversionsc kbversions fbversions bpersonsc kbpersons fbpersons bpapersc kbpapers fbpapers blinesc kblines fblines bstepsc kbsteps fbsteps bstampsc kbstamps fbstamps := by
  refine MI.start (by decide +kernel) (Nat.le_of_ble_eq_true rfl) ?_
  intro p e s m below meth c A ls hC hK hP hD hS hA hl
  refine absQ (fun Q0 hQ0 => ?_)
  have hl : lv_has ls 5 [(0, .ref h0), (1, .int x1), (2, .int x2)] := hl
  refine Kan8 hC (fun hx hb hr hml hB hown hlocks hnm => ?_)
  refine lv_aload_n hx hb gX11_why_0.1 rfl (lv_at0 hl) ?_
  refine gf_X11_15 hC rfl hK hP 0 rfl rfl gX11_why_0.2.1 ?_
  refine gf_X11_107 hC rfl hK hP 13 rfl rfl gX11_why_0.2.2.1 ?_
  refine lv_iload_n hx hb gX11_why_0.2.2.2.1 rfl (lv_at1 hl) ?_
  refine pV hC hK hl hP hD (c_T_has l G bpersons x1 10 2 bpersonsc kbpersons) si_X11_124 [16] sm_16 fm_16 nd_16 rfl rfl rfl rfl rfl (Nat.le_of_ble_eq_true rfl) rm_7_1_2 ⟨by first | exact Nat.le_of_ble_eq_true rfl | exact Nat.zero_le _, by first | exact Nat.le_of_ble_eq_true rfl | exact Nat.zero_le _⟩ gX11_why_0.2.2.2.2.1 (Kors (Keqa fun a3119 => ?_) (Keqa fun a3119 => ?_))
  · refine lv_if_eq (tgt := 21) hx hb gX11_why_0.2.2.2.2.2.1 (by decide) (fun c9 => absurd c9 (by decide)) (fun _ => ?_)
    refine lv_iload_n hx hb gX11_why_0.2.2.2.2.2.2.1 rfl (lv_at2 hl) ?_
    refine pS hC hK hl (c_isThing l G x2) si_X11_213 rfl rfl (Nat.le_of_ble_eq_true rfl) rm_7_2_1 ⟨by first | exact Nat.le_of_ble_eq_true rfl | exact Nat.zero_le _, by first | exact Nat.le_of_ble_eq_true rfl | exact Nat.zero_le _⟩ gX11_why_0.2.2.2.2.2.2.2.1 (Kors (Keqa fun a3121 => ?_) (Keqa fun a3121 => ?_))
    · refine lv_if_ne (tgt := 23) hx hb gX11_why_0.2.2.2.2.2.2.2.2.1 (by decide) (fun _ => ?_) (fun c9 => absurd c9 (by decide))
      refine lv_aload_n hx hb gX11_why_1.2.1 rfl (lv_at0 hl) ?_
      refine gf_X11_15 hC rfl hK hP 0 rfl rfl gX11_why_1.2.2.1 ?_
      refine pV hC hK hl hP hD (c_inView l G bb bpersons bpapers bstamps bversions blines bsteps bsayings bfindings bwarnings bquestions td vd vl gp bpapersc kbpapers fbpapers (hkbpapers)) si_X11_97 [13, 18, 19] sm_13_18_19 fm_13_18_19 nd_13_18_19 rfl rfl rfl rfl rfl (Nat.le_of_ble_eq_true rfl) rm_7_3_6 ⟨by first | exact Nat.le_of_ble_eq_true rfl | exact Nat.zero_le _, by first | exact Nat.le_of_ble_eq_true rfl | exact Nat.zero_le _⟩ gX11_why_1.2.2.2.1 (fun r3122 hr3122 => ?_)
      refine lv_istore_n (lv' := [(3, .int r3122), (0, .ref h0), (1, .int x1), (2, .int x2)]) hx hb gX11_why_1.2.2.2.2.1 rfl hl (by decide) rfl (fun ls hl => ?_)
      refine lv_aload_n hx hb gX11_why_1.2.2.2.2.2.1 rfl (lv_at1 hl) ?_
      refine gf_X11_28 hC rfl hK hP 0 rfl rfl gX11_why_1.2.2.2.2.2.2.1 ?_
      refine lv_iload_n hx hb gX11_why_1.2.2.2.2.2.2.2.1 rfl (lv_at0 hl) ?_
      refine vV (wr := [(h0, oX11 bb kk ikp sg do9 ru9 ta9 tp9 ro9 ho9 de9), (ru9, oX6 bb sg fc sh r1 rc rh), (fc, iA G 5 ffc), (sh, iA G 8 fsh), (bversions, oX8 8 3 bversionsc (nI kbversions)), (bversionsc, iA G 24 fbversions), (bpersons, oX8 10 2 bpersonsc (nI kbpersons)), (bpersonsc, iA G 20 fbpersons), (bpapers, oX8 12 6 bpapersc (nI kbpapers)), (bpapersc, iA G 72 fbpapers), (blines, oX8 72 7 blinesc (nI kblines)), (blinesc, iA G 504 fblines), (bsteps, oX8 960 1 bstepsc (nI kbsteps)), (bstepsc, iA G 960 fbsteps)]) hC hK hl hP hD hS hA (c_look l G sg r3122 bb clk fi la ml mm sl sm cl clm fclm ffi fla fml fmm fsl fsm bpersons bpapers bstamps bversions blines bsteps bsayings bfindings bwarnings bquestions td vd vl gp bstampsc kbstamps fbstamps (hkbstamps)) si_X11_183 [1, 2, 3, 4, 5, 6, 7, 8, 9, 13, 24, 25] [0, 10, 11, 12, 14, 15, 16, 17, 18, 19, 20, 21, 22, 23] sm_1_2_3_4_5_6_7_8_9_13_24_25 fm_1_2_3_4_5_6_7_8_9_13_24_25 nd_1_2_3_4_5_6_7_8_9_13_24_25 sm_0_10_11_12_14_15_16_17_18_19_20_21_22_23 nd_0_10_11_12_14_15_16_17_18_19_20_21_22_23 dj_1_2_3_4_5_6_7_8_9_13_24_25__0_10_11_12_14_15_16_17_18_19_20_21_22_23 rfl rfl rfl rfl rfl (Nat.le_of_ble_eq_true rfl) rm_7_5_4 ⟨Nat.le_of_ble_eq_true rfl, Nat.le_of_ble_eq_true rfl⟩ gX11_why_1.2.2.2.2.2.2.2.2.1 (Ktu8 fun cl13125 gclm3126 gfi3127 gla3128 gml3129 gmm3130 gsl3131 gsm3132 => ?_)
      intro H locs hr3123 hP hD hS
      try dsimp only at hr3123
      refine Kpdr (ws := [(h0, oX11 bb kk ikp sg do9 ru9 ta9 tp9 ro9 ho9 de9), (ru9, oX6 bb sg fc sh r1 rc rh), (fc, iA G 5 ffc), (sh, iA G 8 fsh), (bversions, oX8 8 3 bversionsc (nI kbversions)), (bversionsc, iA G 24 fbversions), (bpersons, oX8 10 2 bpersonsc (nI kbpersons)), (bpersonsc, iA G 20 fbpersons), (bpapers, oX8 12 6 bpapersc (nI kbpapers)), (bpapersc, iA G 72 fbpapers), (blines, oX8 72 7 blinesc (nI kblines)), (blinesc, iA G 504 fblines), (bsteps, oX8 960 1 bstepsc (nI kbsteps)), (bstepsc, iA G 960 fbsteps), (sg, oX7 bb clk fi la ml mm sl sm cl13125), (clk, oX1 clm), (clm, iA G 36 gclm3126), (fi, iA G 12 gfi3127), (la, iA G 12 gla3128), (ml, iA G 12 gml3129), (mm, iA G 12 gmm3130), (sl, iA G 12 gsl3131), (sm, iA G 12 gsm3132), (bb, oX0 bpersons bpapers bstamps bversions blines bsteps bsayings bfindings bwarnings bquestions td vd vl gp), (bstamps, oX8 24 3 bstampsc (nI kbstamps)), (bstampsc, iA G 72 fbstamps)]) hP hD (fun hP hD => ?_)
      have w3133 := hr3123
      refine lv_aload_n hx hb gX11_why_1.2.2.2.2.2.2.2.2.2 rfl (lv_at1 hl) ?_
      refine gf_X11_44 hC rfl hK hP 0 rfl rfl gX11_why_2.1 ?_
      refine lv_iload_n hx hb gX11_why_2.2.1 rfl (lv_at2 hl) ?_
      refine lv_iload_n hx hb gX11_why_2.2.2.1 rfl (lv_at0 hl) ?_
      refine vV (wr := [(h0, oX11 bb kk ikp sg do9 ru9 ta9 tp9 ro9 ho9 de9), (clk, oX1 clm), (clm, iA G 36 gclm3126), (fi, iA G 12 gfi3127), (bstamps, oX8 24 3 bstampsc (nI kbstamps)), (bstampsc, iA G 72 fbstamps)]) hC hK hl hP hD hS hA (c_settle l G ru9 x1 r3122 bb sg fc sh r1 rc rh ffc fsh clk fi la ml mm sl sm cl13125 gla3128 gml3129 gmm3130 gsl3131 gsm3132 bpersons bpapers bstamps bversions blines bsteps bsayings bfindings bwarnings bquestions td vd vl gp bversionsc kbversions fbversions bpersonsc kbpersons fbpersons bpapersc kbpapers fbpapers blinesc kblines fblines bstepsc kbsteps fbsteps (hkbversions) (hkbpersons) (hkbpapers) (hkblines) (hkbsteps)) si_X11_243 [1, 2, 3, 14, 18, 19, 20, 21, 22, 23, 4, 5, 6, 7, 8, 9, 10, 11, 12, 13] [0, 15, 16, 17, 24, 25] sm_1_2_3_14_18_19_20_21_22_23_4_5_6_7_8_9_10_11_12_13 fm_1_2_3_14_18_19_20_21_22_23_4_5_6_7_8_9_10_11_12_13 nd_1_2_3_14_18_19_20_21_22_23_4_5_6_7_8_9_10_11_12_13 sm_0_15_16_17_24_25 nd_0_15_16_17_24_25 dj_1_2_3_14_18_19_20_21_22_23_4_5_6_7_8_9_10_11_12_13__0_15_16_17_24_25 rfl rfl rfl rfl rfl (Nat.le_of_ble_eq_true rfl) rm_7_5_5 ⟨Nat.le_of_ble_eq_true rfl, Nat.le_of_ble_eq_true rfl⟩ gX11_why_2.2.2.2.1 (Ktu5 fun r113136 rc13137 rh13138 gfc3139 gsh3140 => ?_)
      intro H locs hr3134 hP hD hS
      try dsimp only at hr3134
      refine Kpdr (ws := [(h0, oX11 bb kk ikp sg do9 ru9 ta9 tp9 ro9 ho9 de9), (clk, oX1 clm), (clm, iA G 36 gclm3126), (fi, iA G 12 gfi3127), (bstamps, oX8 24 3 bstampsc (nI kbstamps)), (bstampsc, iA G 72 fbstamps), (ru9, oX6 bb sg fc sh r113136 rc13137 rh13138), (fc, iA G 5 gfc3139), (sh, iA G 8 gsh3140), (sg, oX7 bb clk fi la ml mm sl sm cl13125), (la, iA G 12 gla3128), (ml, iA G 12 gml3129), (mm, iA G 12 gmm3130), (sl, iA G 12 gsl3131), (sm, iA G 12 gsm3132), (bb, oX0 bpersons bpapers bstamps bversions blines bsteps bsayings bfindings bwarnings bquestions td vd vl gp), (bversions, oX8 8 3 bversionsc (nI kbversions)), (bversionsc, iA G 24 fbversions), (bpersons, oX8 10 2 bpersonsc (nI kbpersons)), (bpersonsc, iA G 20 fbpersons), (bpapers, oX8 12 6 bpapersc (nI kbpapers)), (bpapersc, iA G 72 fbpapers), (blines, oX8 72 7 blinesc (nI kblines)), (blinesc, iA G 504 fblines), (bsteps, oX8 960 1 bstepsc (nI kbsteps)), (bstepsc, iA G 960 fbsteps)]) hP hD (fun hP hD => ?_)
      refine lv_aload_n hx hb gX11_why_2.2.2.2.2.1 rfl (lv_at1 hl) ?_
      refine gf_X11_44 hC rfl hK hP 0 rfl rfl gX11_why_2.2.2.2.2.2.1 ?_
      refine lv_iload_n hx hb gX11_why_2.2.2.2.2.2.2.1 rfl (lv_at3 hl) ?_
      refine pV hC hK hl hP hD (c_shouldHour l G ru9 x2 bb sg fc sh r113136 rc13137 rh13138 gsh3140) si_X11_247 [6, 8] sm_6_8 fm_6_8 nd_6_8 rfl rfl rfl rfl rfl (Nat.le_of_ble_eq_true rfl) rm_7_1_2 ⟨by first | exact Nat.le_of_ble_eq_true rfl | exact Nat.zero_le _, by first | exact Nat.le_of_ble_eq_true rfl | exact Nat.zero_le _⟩ gX11_why_2.2.2.2.2.2.2.2.1 (fun r3141 hr3141 => ?_)
      refine lv_istore (lv' := [(4, .int r3141), (3, .int r3122), (0, .ref h0), (1, .int x1), (2, .int x2)]) hx hb gX11_why_2.2.2.2.2.2.2.2.2.1 hl (by decide) rfl (fun ls hl => ?_)
      refine lv_iload hx hb gX11_why_2.2.2.2.2.2.2.2.2.2 (lv_at0 hl) ?_
      refine lv_ldc hx hb hown (hB _ m_599) gX11_why_3.1 ?_
      refine lv_icmp_eq (tgt := 80) hx hb gX11_why_3.2.1 (by decide) (fun c_62_3142 => ?_) (fun c_62_3142 => ?_)
      · refine lv_bipush (v := (-3)) hx hb gX11_why_4.1 (by decide) ?_
        refine toQ hQ0 ?_
        exact RI (v := (-3)) hC hP hD hS [0, 9, 1, 2, 3, 10, 11, 12, 13, 14, 6, 7, 8, 15, 16, 17, 18, 19, 20, 21, 22, 23, 24, 25, 4, 5] (cl13125, gclm3126, gfi3127, gla3128, gml3129, gmm3130, gsl3131, gsm3132, r113136, rc13137, rh13138, gfc3139, gsh3140) rfl rfl (by decide) (⟨trivial, w3133⟩) rfl gX11_why_4.2.1
      · refine lv_iload hx hb gX11_why_3.2.2.1 (lv_at0 hl) ?_
        refine lv_aload_n hx hb gX11_why_3.2.2.2.1 rfl (lv_at2 hl) ?_
        refine gf_X11_28 hC rfl hK hP 0 rfl rfl gX11_why_3.2.2.2.2.1 ?_
        refine lv_iload_n hx hb gX11_why_3.2.2.2.2.2.1 rfl (lv_at3 hl) ?_
        refine lv_iload_n hx hb gX11_why_3.2.2.2.2.2.2.1 rfl (lv_at4 hl) ?_
        refine lv_iconst (v := 1) hx hb gX11_why_3.2.2.2.2.2.2.2.1 (by decide) ?_
        refine pV hC hK hl hP hD (c_toldHour l G sg x1 x2 1 bb clk fi la ml mm sl sm cl13125 gla3128 gml3129 gmm3130 gsl3131 gsm3132 bpersons bpapers bstamps bversions blines bsteps bsayings bfindings bwarnings bquestions td vd vl gp bpapersc kbpapers fbpapers bpersonsc kbpersons fbpersons (hkbpapers) (hkbpersons)) si_X11_250 [9, 10, 11, 12, 13, 14, 15, 20, 21, 18, 19] sm_9_10_11_12_13_14_15_20_21_18_19 fm_9_10_11_12_13_14_15_20_21_18_19 nd_9_10_11_12_13_14_15_20_21_18_19 rfl rfl rfl rfl rfl (Nat.le_of_ble_eq_true rfl) rm_7_4_6 ⟨by first | exact Nat.le_of_ble_eq_true rfl | exact Nat.zero_le _, by first | exact Nat.le_of_ble_eq_true rfl | exact Nat.zero_le _⟩ gX11_why_3.2.2.2.2.2.2.2.2.1 (fun r3143 hr3143 => ?_)
        refine lv_icmp_ne (tgt := 83) hx hb gX11_why_3.2.2.2.2.2.2.2.2.2 (by decide) (fun c_77_3144 => ?_) (fun c_77_3144 => ?_)
        · refine lv_aload_n hx hb gX11_why_4.2.2.1 rfl (lv_at2 hl) ?_
          refine gf_X11_44 hC rfl hK hP 0 rfl rfl gX11_why_4.2.2.2.1 ?_
          refine lv_iload_n hx hb gX11_why_4.2.2.2.2.1 rfl (lv_at4 hl) ?_
          refine pV hC hK hl hP hD (c_firstLineFor l G ru9 x2 bb sg fc sh r113136 rc13137 rh13138 gsh3140 bpersons bpapers bstamps bversions blines bsteps bsayings bfindings bwarnings bquestions td vd vl gp blinesc kblines fblines (hkblines)) si_X11_253 [6, 8, 15, 22, 23] sm_6_8_15_22_23 fm_6_8_15_22_23 nd_6_8_15_22_23 rfl rfl rfl rfl rfl (Nat.le_of_ble_eq_true rfl) rm_7_4_3 ⟨by first | exact Nat.le_of_ble_eq_true rfl | exact Nat.zero_le _, by first | exact Nat.le_of_ble_eq_true rfl | exact Nat.zero_le _⟩ gX11_why_4.2.2.2.2.2.1 (fun r3145 hr3145 => ?_)
          refine toQ hQ0 ?_
          exact RI (v := r3145) hC hP hD hS [0, 9, 1, 2, 3, 10, 11, 12, 13, 14, 6, 7, 8, 15, 16, 17, 18, 19, 20, 21, 22, 23, 24, 25, 4, 5] (cl13125, gclm3126, gfi3127, gla3128, gml3129, gmm3130, gsl3131, gsm3132, r113136, rc13137, rh13138, gfc3139, gsh3140) rfl rfl (by decide) (⟨trivial, w3133⟩) rfl gX11_why_4.2.2.2.2.2.2
        · refine lv_bipush (v := (-3)) hx hb gX11_why_4.1 (by decide) ?_
          refine toQ hQ0 ?_
          exact RI (v := (-3)) hC hP hD hS [0, 9, 1, 2, 3, 10, 11, 12, 13, 14, 6, 7, 8, 15, 16, 17, 18, 19, 20, 21, 22, 23, 24, 25, 4, 5] (cl13125, gclm3126, gfi3127, gla3128, gml3129, gmm3130, gsl3131, gsm3132, r113136, rc13137, rh13138, gfc3139, gsh3140) rfl rfl (by decide) (⟨trivial, w3133⟩) rfl gX11_why_4.2.1
    · refine lv_if_ne (tgt := 23) hx hb gX11_why_0.2.2.2.2.2.2.2.2.1 (by decide) (fun c9 => absurd (by decide) c9) (fun _ => ?_)
      refine lv_iconst (v := (-1)) hx hb gX11_why_0.2.2.2.2.2.2.2.2.2 (by decide) ?_
      refine toQ hQ0 ?_
      exact RI (v := (-1)) hC hP hD hS [0, 1, 2, 3, 4, 5, 6, 7, 8, 9, 10, 11, 12, 13, 14, 15, 16, 17, 18, 19, 20, 21, 22, 23, 24, 25] (cl, fclm, ffi, fla, fml, fmm, fsl, fsm, r1, rc, rh, ffc, fsh) rfl rfl (by decide) (⟨trivial, hcl⟩) rfl gX11_why_1.1
  · refine lv_if_eq (tgt := 21) hx hb gX11_why_0.2.2.2.2.2.1 (by decide) (fun _ => ?_) (fun c9 => absurd (by decide) c9)
    refine lv_iconst (v := (-1)) hx hb gX11_why_0.2.2.2.2.2.2.2.2.2 (by decide) ?_
    refine toQ hQ0 ?_
    exact RI (v := (-1)) hC hP hD hS [0, 1, 2, 3, 4, 5, 6, 7, 8, 9, 10, 11, 12, 13, 14, 15, 16, 17, 18, 19, 20, 21, 22, 23, 24, 25] (cl, fclm, ffi, fla, fml, fmm, fsl, fsm, r1, rc, rh, ffc, fsh) rfl rfl (by decide) (⟨trivial, hcl⟩) rfl gX11_why_1.1
def K_c_stands (l : Launch) (G : GG) (h0 : Nat) (x1 : Int32) (x2 : Int32) (bb : Nat) (kk : Nat) (ikp : Int32) (sg : Nat) (do9 : Nat) (ru9 : Nat) (ta9 : Nat) (tp9 : Nat) (ro9 : Nat) (ho9 : Nat) (de9 : Nat) (clk : Nat) (fi : Nat) (la : Nat) (ml : Nat) (mm : Nat) (sl : Nat) (sm : Nat) (cl : Int32) (clm : Nat) (fclm : Nat → Int32) (ffi : Nat → Int32) (fla : Nat → Int32) (fml : Nat → Int32) (fmm : Nat → Int32) (fsl : Nat → Int32) (fsm : Nat → Int32) (fc : Nat) (sh : Nat) (r1 : Int32) (rc : Int32) (rh : Int32) (ffc : Nat → Int32) (fsh : Nat → Int32) (bpersons : Nat) (bpapers : Nat) (bstamps : Nat) (bversions : Nat) (blines : Nat) (bsteps : Nat) (bsayings : Nat) (bfindings : Nat) (bwarnings : Nat) (bquestions : Nat) (td : Int32) (vd : Int32) (vl : Int32) (gp : Int32) (bversionsc : Nat) (kbversions : Nat) (fbversions : Nat → Int32) (bpersonsc : Nat) (kbpersons : Nat) (fbpersons : Nat → Int32) (bpapersc : Nat) (kbpapers : Nat) (fbpapers : Nat → Int32) (blinesc : Nat) (kblines : Nat) (fblines : Nat → Int32) (bstepsc : Nat) (kbsteps : Nat) (fbsteps : Nat → Int32) (bstampsc : Nat) (kbstamps : Nat) (fbstamps : Nat → Int32) (bfindingsc : Nat) (kbfindings : Nat) (fbfindings : Nat → Int32) : Prop := MI l G yX11_stands cX11_stands 6 (some .boolean) 7 0 0 [.ref h0, .int x1, .int x2] [(h0, oX11 bb kk ikp sg do9 ru9 ta9 tp9 ro9 ho9 de9), (sg, oX7 bb clk fi la ml mm sl sm cl), (clk, oX1 clm), (clm, iA G 36 fclm), (fi, iA G 12 ffi), (la, iA G 12 fla), (ml, iA G 12 fml), (mm, iA G 12 fmm), (sl, iA G 12 fsl), (sm, iA G 12 fsm), (ru9, oX6 bb sg fc sh r1 rc rh), (fc, iA G 5 ffc), (sh, iA G 8 fsh), (bb, oX0 bpersons bpapers bstamps bversions blines bsteps bsayings bfindings bwarnings bquestions td vd vl gp), (bversions, oX8 8 3 bversionsc (nI kbversions)), (bversionsc, iA G 24 fbversions), (bpersons, oX8 10 2 bpersonsc (nI kbpersons)), (bpersonsc, iA G 20 fbpersons), (bpapers, oX8 12 6 bpapersc (nI kbpapers)), (bpapersc, iA G 72 fbpapers), (blines, oX8 72 7 blinesc (nI kblines)), (blinesc, iA G 504 fblines), (bsteps, oX8 960 1 bstepsc (nI kbsteps)), (bstepsc, iA G 960 fbsteps), (bstamps, oX8 24 3 bstampsc (nI kbstamps)), (bstampsc, iA G 72 fbstamps), (bfindings, oX8 12 4 bfindingsc (nI kbfindings)), (bfindingsc, iA G 48 fbfindings)] (fun (r : Int32) (u : Int32 × (Nat → Int32) × (Nat → Int32) × (Nat → Int32) × (Nat → Int32) × (Nat → Int32) × (Nat → Int32) × (Nat → Int32) × Int32 × Int32 × Int32 × (Nat → Int32) × (Nat → Int32)) => (r = 1 ∨ r = 0) ∧ (u.1 = 0 ∨ u.1 = 1)) (fun u : Int32 × (Nat → Int32) × (Nat → Int32) × (Nat → Int32) × (Nat → Int32) × (Nat → Int32) × (Nat → Int32) × (Nat → Int32) × Int32 × Int32 × Int32 × (Nat → Int32) × (Nat → Int32) => [(h0, oX11 bb kk ikp sg do9 ru9 ta9 tp9 ro9 ho9 de9), (sg, oX7 bb clk fi la ml mm sl sm u.1), (clk, oX1 clm), (clm, iA G 36 u.2.1), (fi, iA G 12 u.2.2.1), (la, iA G 12 u.2.2.2.1), (ml, iA G 12 u.2.2.2.2.1), (mm, iA G 12 u.2.2.2.2.2.1), (sl, iA G 12 u.2.2.2.2.2.2.1), (sm, iA G 12 u.2.2.2.2.2.2.2.1), (ru9, oX6 bb sg fc sh u.2.2.2.2.2.2.2.2.1 u.2.2.2.2.2.2.2.2.2.1 u.2.2.2.2.2.2.2.2.2.2.1), (fc, iA G 5 u.2.2.2.2.2.2.2.2.2.2.2.1), (sh, iA G 8 u.2.2.2.2.2.2.2.2.2.2.2.2), (bb, oX0 bpersons bpapers bstamps bversions blines bsteps bsayings bfindings bwarnings bquestions td vd vl gp), (bversions, oX8 8 3 bversionsc (nI kbversions)), (bversionsc, iA G 24 fbversions), (bpersons, oX8 10 2 bpersonsc (nI kbpersons)), (bpersonsc, iA G 20 fbpersons), (bpapers, oX8 12 6 bpapersc (nI kbpapers)), (bpapersc, iA G 72 fbpapers), (blines, oX8 72 7 blinesc (nI kblines)), (blinesc, iA G 504 fblines), (bsteps, oX8 960 1 bstepsc (nI kbsteps)), (bstepsc, iA G 960 fbsteps), (bstamps, oX8 24 3 bstampsc (nI kbstamps)), (bstampsc, iA G 72 fbstamps), (bfindings, oX8 12 4 bfindingsc (nI kbfindings)), (bfindingsc, iA G 48 fbfindings)])
set_option maxHeartbeats 4000000 in
set_option maxRecDepth 100000 in
theorem c_stands (l : Launch) (G : GG) (h0 : Nat) (x1 : Int32) (x2 : Int32) (bb : Nat) (kk : Nat) (ikp : Int32) (sg : Nat) (do9 : Nat) (ru9 : Nat) (ta9 : Nat) (tp9 : Nat) (ro9 : Nat) (ho9 : Nat) (de9 : Nat) (clk : Nat) (fi : Nat) (la : Nat) (ml : Nat) (mm : Nat) (sl : Nat) (sm : Nat) (cl : Int32) (clm : Nat) (fclm : Nat → Int32) (ffi : Nat → Int32) (fla : Nat → Int32) (fml : Nat → Int32) (fmm : Nat → Int32) (fsl : Nat → Int32) (fsm : Nat → Int32) (fc : Nat) (sh : Nat) (r1 : Int32) (rc : Int32) (rh : Int32) (ffc : Nat → Int32) (fsh : Nat → Int32) (bpersons : Nat) (bpapers : Nat) (bstamps : Nat) (bversions : Nat) (blines : Nat) (bsteps : Nat) (bsayings : Nat) (bfindings : Nat) (bwarnings : Nat) (bquestions : Nat) (td : Int32) (vd : Int32) (vl : Int32) (gp : Int32) (bversionsc : Nat) (kbversions : Nat) (fbversions : Nat → Int32) (bpersonsc : Nat) (kbpersons : Nat) (fbpersons : Nat → Int32) (bpapersc : Nat) (kbpapers : Nat) (fbpapers : Nat → Int32) (blinesc : Nat) (kblines : Nat) (fblines : Nat → Int32) (bstepsc : Nat) (kbsteps : Nat) (fbsteps : Nat → Int32) (bstampsc : Nat) (kbstamps : Nat) (fbstamps : Nat → Int32) (bfindingsc : Nat) (kbfindings : Nat) (fbfindings : Nat → Int32) (hkbversions : kbversions ≤ 8) (hkbpersons : kbpersons ≤ 10) (hkbpapers : kbpapers ≤ 12) (hkblines : kblines ≤ 72) (hkbsteps : kbsteps ≤ 960) (hkbstamps : kbstamps ≤ 24) (hkbfindings : kbfindings ≤ 12) : K_c_stands l G h0 x1 x2 bb kk ikp sg do9 ru9 ta9 tp9 ro9 ho9 de9 clk fi la ml mm sl sm cl clm fclm ffi fla fml fmm fsl fsm fc sh r1 rc rh ffc fsh bpersons bpapers bstamps bversions blines bsteps bsayings bfindings bwarnings bquestions td vd vl gp bversionsc kbversions fbversions bpersonsc kbpersons fbpersons bpapersc kbpapers fbpapers blinesc kblines fblines bstepsc kbsteps fbsteps bstampsc kbstamps fbstamps bfindingsc kbfindings fbfindings := by
  refine MI.start (by decide +kernel) (Nat.le_of_ble_eq_true rfl) ?_
  intro p e s m below meth c A ls hC hK hP hD hS hA hl
  refine absQ (fun Q0 hQ0 => ?_)
  have hl : lv_has ls 6 [(0, .ref h0), (1, .int x1), (2, .int x2)] := hl
  refine Kan8 hC (fun hx hb hr hml hB hown hlocks hnm => ?_)
  refine lv_aload_n hx hb gX11_stands_0.1 rfl (lv_at0 hl) ?_
  refine gf_X11_15 hC rfl hK hP 0 rfl rfl gX11_stands_0.2.1 ?_
  refine gf_X11_271 hC rfl hK hP 13 rfl rfl gX11_stands_0.2.2.1 ?_
  refine lv_iload_n hx hb gX11_stands_0.2.2.2.1 rfl (lv_at1 hl) ?_
  refine lv_iconst (v := 0) hx hb gX11_stands_0.2.2.2.2.1 (by decide) ?_
  refine pV hC hK hl hP hD (c_T_at l G bfindings x1 0 12 4 bfindingsc kbfindings fbfindings (hkbfindings) (by omega) (by omega)) si_X11_128 [26, 27] sm_26_27 fm_26_27 nd_26_27 rfl rfl rfl rfl rfl (Nat.le_of_ble_eq_true rfl) rm_7_1_3 ⟨by first | exact Nat.le_of_ble_eq_true rfl | exact Nat.zero_le _, by first | exact Nat.le_of_ble_eq_true rfl | exact Nat.zero_le _⟩ gX11_stands_0.2.2.2.2.2.1 (fun r3146 hr3146 => ?_)
  refine lv_istore_n (lv' := [(3, .int r3146), (0, .ref h0), (1, .int x1), (2, .int x2)]) hx hb gX11_stands_0.2.2.2.2.2.2.1 rfl hl (by decide) rfl (fun ls hl => ?_)
  refine lv_aload_n hx hb gX11_stands_0.2.2.2.2.2.2.2.1 rfl (lv_at1 hl) ?_
  refine gf_X11_15 hC rfl hK hP 0 rfl rfl gX11_stands_0.2.2.2.2.2.2.2.2.1 ?_
  refine gf_X11_271 hC rfl hK hP 13 rfl rfl gX11_stands_0.2.2.2.2.2.2.2.2.2 ?_
  refine lv_iload_n hx hb gX11_stands_1.1 rfl (lv_at2 hl) ?_
  refine lv_iconst (v := 1) hx hb gX11_stands_1.2.1 (by decide) ?_
  refine pV hC hK hl hP hD (c_T_at l G bfindings x1 1 12 4 bfindingsc kbfindings fbfindings (hkbfindings) (by omega) (by omega)) si_X11_128 [26, 27] sm_26_27 fm_26_27 nd_26_27 rfl rfl rfl rfl rfl (Nat.le_of_ble_eq_true rfl) rm_7_1_3 ⟨by first | exact Nat.le_of_ble_eq_true rfl | exact Nat.zero_le _, by first | exact Nat.le_of_ble_eq_true rfl | exact Nat.zero_le _⟩ gX11_stands_1.2.2.1 (fun r3148 hr3148 => ?_)
  refine lv_istore (lv' := [(4, .int r3148), (3, .int r3146), (0, .ref h0), (1, .int x1), (2, .int x2)]) hx hb gX11_stands_1.2.2.2.1 hl (by decide) rfl (fun ls hl => ?_)
  refine lv_aload_n hx hb gX11_stands_1.2.2.2.2.1 rfl (lv_at2 hl) ?_
  refine gf_X11_15 hC rfl hK hP 0 rfl rfl gX11_stands_1.2.2.2.2.2.1 ?_
  refine gf_X11_271 hC rfl hK hP 13 rfl rfl gX11_stands_1.2.2.2.2.2.2.1 ?_
  refine lv_iload_n hx hb gX11_stands_1.2.2.2.2.2.2.2.1 rfl (lv_at3 hl) ?_
  refine lv_iconst (v := 3) hx hb gX11_stands_1.2.2.2.2.2.2.2.2.1 (by decide) ?_
  refine pV hC hK hl hP hD (c_T_at l G bfindings x1 3 12 4 bfindingsc kbfindings fbfindings (hkbfindings) (by omega) (by omega)) si_X11_128 [26, 27] sm_26_27 fm_26_27 nd_26_27 rfl rfl rfl rfl rfl (Nat.le_of_ble_eq_true rfl) rm_7_1_3 ⟨by first | exact Nat.le_of_ble_eq_true rfl | exact Nat.zero_le _, by first | exact Nat.le_of_ble_eq_true rfl | exact Nat.zero_le _⟩ gX11_stands_1.2.2.2.2.2.2.2.2.2 (fun r3150 hr3150 => ?_)
  refine lv_istore (lv' := [(5, .int r3150), (4, .int r3148), (3, .int r3146), (0, .ref h0), (1, .int x1), (2, .int x2)]) hx hb gX11_stands_2.1 hl (by decide) rfl (fun ls hl => ?_)
  refine lv_aload_n hx hb gX11_stands_2.2.1 rfl (lv_at3 hl) ?_
  refine gf_X11_15 hC rfl hK hP 0 rfl rfl gX11_stands_2.2.2.1 ?_
  refine gf_X11_271 hC rfl hK hP 13 rfl rfl gX11_stands_2.2.2.2.1 ?_
  refine lv_iload_n hx hb gX11_stands_2.2.2.2.2.1 rfl (lv_at4 hl) ?_
  refine lv_iconst (v := 2) hx hb gX11_stands_2.2.2.2.2.2.1 (by decide) ?_
  refine pV hC hK hl hP hD (c_T_at l G bfindings x1 2 12 4 bfindingsc kbfindings fbfindings (hkbfindings) (by omega) (by omega)) si_X11_128 [26, 27] sm_26_27 fm_26_27 nd_26_27 rfl rfl rfl rfl rfl (Nat.le_of_ble_eq_true rfl) rm_7_1_3 ⟨by first | exact Nat.le_of_ble_eq_true rfl | exact Nat.zero_le _, by first | exact Nat.le_of_ble_eq_true rfl | exact Nat.zero_le _⟩ gX11_stands_2.2.2.2.2.2.2.1 (fun r3152 hr3152 => ?_)
  refine lv_aload_n hx hb gX11_stands_2.2.2.2.2.2.2.2.1 rfl (lv_at3 hl) ?_
  refine lv_iload_n hx hb gX11_stands_2.2.2.2.2.2.2.2.2.1 rfl (lv_at2 hl) ?_
  refine lv_iload hx hb gX11_stands_2.2.2.2.2.2.2.2.2.2 (lv_at1 hl) ?_
  refine lv_iload hx hb gX11_stands_3.1 (lv_at0 hl) ?_
  refine lv_iload_n hx hb gX11_stands_3.2.1 rfl (lv_at5 hl) ?_
  refine iV (wr := [(bfindings, oX8 12 4 bfindingsc (nI kbfindings)), (bfindingsc, iA G 48 fbfindings)]) hC hK hl hP hD hS hA (c_known l G h0 r3146 r3148 r3150 x2 bb kk ikp sg do9 ru9 ta9 tp9 ro9 ho9 de9 clk fi la ml mm sl sm cl clm fclm ffi fla fml fmm fsl fsm fc sh r1 rc rh ffc fsh bpersons bpapers bstamps bversions blines bsteps bsayings bfindings bwarnings bquestions td vd vl gp bversionsc kbversions fbversions bpersonsc kbpersons fbpersons bpapersc kbpapers fbpapers blinesc kblines fblines bstepsc kbsteps fbsteps bstampsc kbstamps fbstamps (hkbversions) (hkbpersons) (hkbpapers) (hkblines) (hkbsteps) (hkbstamps)) si_X11_219 [0, 1, 2, 3, 4, 5, 6, 7, 8, 9, 10, 11, 12, 13, 14, 15, 16, 17, 18, 19, 20, 21, 22, 23, 24, 25] [26, 27] sm_0_1_2_3_4_5_6_7_8_9_10_11_12_13_14_15_16_17_18_19_20_21_22_23_24_25 fm_0_1_2_3_4_5_6_7_8_9_10_11_12_13_14_15_16_17_18_19_20_21_22_23_24_25 nd_0_1_2_3_4_5_6_7_8_9_10_11_12_13_14_15_16_17_18_19_20_21_22_23_24_25 sm_26_27 nd_26_27 dj_0_1_2_3_4_5_6_7_8_9_10_11_12_13_14_15_16_17_18_19_20_21_22_23_24_25__26_27 rfl rfl rfl rfl rfl (Nat.le_of_ble_eq_true rfl) rm_7_6_5 ⟨Nat.le_of_ble_eq_true rfl, Nat.le_of_ble_eq_true rfl⟩ gX11_stands_3.2.2.1 (fun r3154 => Ktu13 fun cl13156 gclm3157 gfi3158 gla3159 gml3160 gmm3161 gsl3162 gsm3163 r113164 rc13165 rh13166 gfc3167 gsh3168 => ?_)
  intro H locs hr3154 hP hD hS
  try dsimp only at hr3154
  refine Kpdr (ws := [(bfindings, oX8 12 4 bfindingsc (nI kbfindings)), (bfindingsc, iA G 48 fbfindings), (h0, oX11 bb kk ikp sg do9 ru9 ta9 tp9 ro9 ho9 de9), (sg, oX7 bb clk fi la ml mm sl sm cl13156), (clk, oX1 clm), (clm, iA G 36 gclm3157), (fi, iA G 12 gfi3158), (la, iA G 12 gla3159), (ml, iA G 12 gml3160), (mm, iA G 12 gmm3161), (sl, iA G 12 gsl3162), (sm, iA G 12 gsm3163), (ru9, oX6 bb sg fc sh r113164 rc13165 rh13166), (fc, iA G 5 gfc3167), (sh, iA G 8 gsh3168), (bb, oX0 bpersons bpapers bstamps bversions blines bsteps bsayings bfindings bwarnings bquestions td vd vl gp), (bversions, oX8 8 3 bversionsc (nI kbversions)), (bversionsc, iA G 24 fbversions), (bpersons, oX8 10 2 bpersonsc (nI kbpersons)), (bpersonsc, iA G 20 fbpersons), (bpapers, oX8 12 6 bpapersc (nI kbpapers)), (bpapersc, iA G 72 fbpapers), (blines, oX8 72 7 blinesc (nI kblines)), (blinesc, iA G 504 fblines), (bsteps, oX8 960 1 bstepsc (nI kbsteps)), (bstepsc, iA G 960 fbsteps), (bstamps, oX8 24 3 bstampsc (nI kbstamps)), (bstampsc, iA G 72 fbstamps)]) hP hD (fun hP hD => ?_)
  obtain ⟨hr3154, w3169⟩ := hr3154
  refine lv_icmp_lt (tgt := 70) hx hb gX11_stands_3.2.2.2.1 (by decide) (fun c_63_3170 => ?_) (fun c_63_3170 => ?_)
  · refine lv_iconst (v := 0) hx hb gX11_stands_3.2.2.2.2.2.2.1 (by decide) ?_
    refine toQ hQ0 ?_
    exact RI (v := 0) hC hP hD hS [2, 3, 4, 5, 6, 7, 8, 9, 10, 11, 12, 13, 14, 15, 16, 17, 18, 19, 20, 21, 22, 23, 24, 25, 26, 27, 0, 1] (cl13156, gclm3157, gfi3158, gla3159, gml3160, gmm3161, gsl3162, gsm3163, r113164, rc13165, rh13166, gfc3167, gsh3168) rfl rfl (by decide) (⟨Or.inr (rfl), w3169⟩) (by decide +kernel) gX11_stands_3.2.2.2.2.2.2.2
  · refine lv_iconst (v := 1) hx hb gX11_stands_3.2.2.2.2.1 (by decide) ?_
    refine lv_goto (tgt := 71) hx hb gX11_stands_3.2.2.2.2.2.1 (by decide) ?_
    refine toQ hQ0 ?_
    exact RI (v := 1) hC hP hD hS [2, 3, 4, 5, 6, 7, 8, 9, 10, 11, 12, 13, 14, 15, 16, 17, 18, 19, 20, 21, 22, 23, 24, 25, 26, 27, 0, 1] (cl13156, gclm3157, gfi3158, gla3159, gml3160, gmm3161, gsl3162, gsm3163, r113164, rc13165, rh13166, gfc3167, gsh3168) rfl rfl (by decide) (⟨Or.inl (rfl), w3169⟩) (by decide +kernel) gX11_stands_3.2.2.2.2.2.2.2
def K_c_leansOn (l : Launch) (G : GG) (h0 : Nat) (x1 : Int32) (x2 : Int32) (bb : Nat) (kk : Nat) (ikp : Int32) (sg : Nat) (do9 : Nat) (ru9 : Nat) (ta9 : Nat) (tp9 : Nat) (ro9 : Nat) (ho9 : Nat) (de9 : Nat) (clk : Nat) (fi : Nat) (la : Nat) (ml : Nat) (mm : Nat) (sl : Nat) (sm : Nat) (cl : Int32) (clm : Nat) (fclm : Nat → Int32) (ffi : Nat → Int32) (fla : Nat → Int32) (fml : Nat → Int32) (fmm : Nat → Int32) (fsl : Nat → Int32) (fsm : Nat → Int32) (fc : Nat) (sh : Nat) (r1 : Int32) (rc : Int32) (rh : Int32) (ffc : Nat → Int32) (fsh : Nat → Int32) (bpersons : Nat) (bpapers : Nat) (bstamps : Nat) (bversions : Nat) (blines : Nat) (bsteps : Nat) (bsayings : Nat) (bfindings : Nat) (bwarnings : Nat) (bquestions : Nat) (td : Int32) (vd : Int32) (vl : Int32) (gp : Int32) (bversionsc : Nat) (kbversions : Nat) (fbversions : Nat → Int32) (bpersonsc : Nat) (kbpersons : Nat) (fbpersons : Nat → Int32) (bpapersc : Nat) (kbpapers : Nat) (fbpapers : Nat → Int32) (blinesc : Nat) (kblines : Nat) (fblines : Nat → Int32) (bstepsc : Nat) (kbsteps : Nat) (fbsteps : Nat → Int32) (bstampsc : Nat) (kbstamps : Nat) (fbstamps : Nat → Int32) (bfindingsc : Nat) (kbfindings : Nat) (fbfindings : Nat → Int32) : Prop := MI l G yX11_leansOn cX11_leansOn 5 (some .int) 8 0 0 [.ref h0, .int x1, .int x2] [(h0, oX11 bb kk ikp sg do9 ru9 ta9 tp9 ro9 ho9 de9), (sg, oX7 bb clk fi la ml mm sl sm cl), (clk, oX1 clm), (clm, iA G 36 fclm), (fi, iA G 12 ffi), (la, iA G 12 fla), (ml, iA G 12 fml), (mm, iA G 12 fmm), (sl, iA G 12 fsl), (sm, iA G 12 fsm), (ru9, oX6 bb sg fc sh r1 rc rh), (fc, iA G 5 ffc), (sh, iA G 8 fsh), (bb, oX0 bpersons bpapers bstamps bversions blines bsteps bsayings bfindings bwarnings bquestions td vd vl gp), (bversions, oX8 8 3 bversionsc (nI kbversions)), (bversionsc, iA G 24 fbversions), (bpersons, oX8 10 2 bpersonsc (nI kbpersons)), (bpersonsc, iA G 20 fbpersons), (bpapers, oX8 12 6 bpapersc (nI kbpapers)), (bpapersc, iA G 72 fbpapers), (blines, oX8 72 7 blinesc (nI kblines)), (blinesc, iA G 504 fblines), (bsteps, oX8 960 1 bstepsc (nI kbsteps)), (bstepsc, iA G 960 fbsteps), (bstamps, oX8 24 3 bstampsc (nI kbstamps)), (bstampsc, iA G 72 fbstamps), (bfindings, oX8 12 4 bfindingsc (nI kbfindings)), (bfindingsc, iA G 48 fbfindings)] (fun (r : Int32) (u : Int32 × (Nat → Int32) × (Nat → Int32) × (Nat → Int32) × (Nat → Int32) × (Nat → Int32) × (Nat → Int32) × (Nat → Int32) × Int32 × Int32 × Int32 × (Nat → Int32) × (Nat → Int32)) => (True) ∧ (u.1 = 0 ∨ u.1 = 1)) (fun u : Int32 × (Nat → Int32) × (Nat → Int32) × (Nat → Int32) × (Nat → Int32) × (Nat → Int32) × (Nat → Int32) × (Nat → Int32) × Int32 × Int32 × Int32 × (Nat → Int32) × (Nat → Int32) => [(h0, oX11 bb kk ikp sg do9 ru9 ta9 tp9 ro9 ho9 de9), (sg, oX7 bb clk fi la ml mm sl sm u.1), (clk, oX1 clm), (clm, iA G 36 u.2.1), (fi, iA G 12 u.2.2.1), (la, iA G 12 u.2.2.2.1), (ml, iA G 12 u.2.2.2.2.1), (mm, iA G 12 u.2.2.2.2.2.1), (sl, iA G 12 u.2.2.2.2.2.2.1), (sm, iA G 12 u.2.2.2.2.2.2.2.1), (ru9, oX6 bb sg fc sh u.2.2.2.2.2.2.2.2.1 u.2.2.2.2.2.2.2.2.2.1 u.2.2.2.2.2.2.2.2.2.2.1), (fc, iA G 5 u.2.2.2.2.2.2.2.2.2.2.2.1), (sh, iA G 8 u.2.2.2.2.2.2.2.2.2.2.2.2), (bb, oX0 bpersons bpapers bstamps bversions blines bsteps bsayings bfindings bwarnings bquestions td vd vl gp), (bversions, oX8 8 3 bversionsc (nI kbversions)), (bversionsc, iA G 24 fbversions), (bpersons, oX8 10 2 bpersonsc (nI kbpersons)), (bpersonsc, iA G 20 fbpersons), (bpapers, oX8 12 6 bpapersc (nI kbpapers)), (bpapersc, iA G 72 fbpapers), (blines, oX8 72 7 blinesc (nI kblines)), (blinesc, iA G 504 fblines), (bsteps, oX8 960 1 bstepsc (nI kbsteps)), (bstepsc, iA G 960 fbsteps), (bstamps, oX8 24 3 bstampsc (nI kbstamps)), (bstampsc, iA G 72 fbstamps), (bfindings, oX8 12 4 bfindingsc (nI kbfindings)), (bfindingsc, iA G 48 fbfindings)])
set_option maxHeartbeats 4000000 in
set_option maxRecDepth 100000 in
theorem c_leansOn (l : Launch) (G : GG) (h0 : Nat) (x1 : Int32) (x2 : Int32) (bb : Nat) (kk : Nat) (ikp : Int32) (sg : Nat) (do9 : Nat) (ru9 : Nat) (ta9 : Nat) (tp9 : Nat) (ro9 : Nat) (ho9 : Nat) (de9 : Nat) (clk : Nat) (fi : Nat) (la : Nat) (ml : Nat) (mm : Nat) (sl : Nat) (sm : Nat) (cl : Int32) (clm : Nat) (fclm : Nat → Int32) (ffi : Nat → Int32) (fla : Nat → Int32) (fml : Nat → Int32) (fmm : Nat → Int32) (fsl : Nat → Int32) (fsm : Nat → Int32) (fc : Nat) (sh : Nat) (r1 : Int32) (rc : Int32) (rh : Int32) (ffc : Nat → Int32) (fsh : Nat → Int32) (bpersons : Nat) (bpapers : Nat) (bstamps : Nat) (bversions : Nat) (blines : Nat) (bsteps : Nat) (bsayings : Nat) (bfindings : Nat) (bwarnings : Nat) (bquestions : Nat) (td : Int32) (vd : Int32) (vl : Int32) (gp : Int32) (bversionsc : Nat) (kbversions : Nat) (fbversions : Nat → Int32) (bpersonsc : Nat) (kbpersons : Nat) (fbpersons : Nat → Int32) (bpapersc : Nat) (kbpapers : Nat) (fbpapers : Nat → Int32) (blinesc : Nat) (kblines : Nat) (fblines : Nat → Int32) (bstepsc : Nat) (kbsteps : Nat) (fbsteps : Nat → Int32) (bstampsc : Nat) (kbstamps : Nat) (fbstamps : Nat → Int32) (bfindingsc : Nat) (kbfindings : Nat) (fbfindings : Nat → Int32) (hkbversions : kbversions ≤ 8) (hkbpersons : kbpersons ≤ 10) (hkbpapers : kbpapers ≤ 12) (hkblines : kblines ≤ 72) (hkbsteps : kbsteps ≤ 960) (hkbstamps : kbstamps ≤ 24) (hkbfindings : kbfindings ≤ 12) : K_c_leansOn l G h0 x1 x2 bb kk ikp sg do9 ru9 ta9 tp9 ro9 ho9 de9 clk fi la ml mm sl sm cl clm fclm ffi fla fml fmm fsl fsm fc sh r1 rc rh ffc fsh bpersons bpapers bstamps bversions blines bsteps bsayings bfindings bwarnings bquestions td vd vl gp bversionsc kbversions fbversions bpersonsc kbpersons fbpersons bpapersc kbpapers fbpapers blinesc kblines fblines bstepsc kbsteps fbsteps bstampsc kbstamps fbstamps bfindingsc kbfindings fbfindings := by
  refine MI.start (by decide +kernel) (Nat.le_of_ble_eq_true rfl) ?_
  intro p e s m below meth c A ls hC hK hP hD hS hA hl
  refine absQ (fun Q0 hQ0 => ?_)
  have hl : lv_has ls 5 [(0, .ref h0), (1, .int x1), (2, .int x2)] := hl
  refine Kan8 hC (fun hx hb hr hml hB hown hlocks hnm => ?_)
  refine lv_aload_n hx hb gX11_leansOn_0.1 rfl (lv_at0 hl) ?_
  refine lv_iload_n hx hb gX11_leansOn_0.2.1 rfl (lv_at1 hl) ?_
  refine lv_iload_n hx hb gX11_leansOn_0.2.2.1 rfl (lv_at2 hl) ?_
  refine iV (wr := []) hC hK hl hP hD hS hA (c_stands l G h0 x1 x2 bb kk ikp sg do9 ru9 ta9 tp9 ro9 ho9 de9 clk fi la ml mm sl sm cl clm fclm ffi fla fml fmm fsl fsm fc sh r1 rc rh ffc fsh bpersons bpapers bstamps bversions blines bsteps bsayings bfindings bwarnings bquestions td vd vl gp bversionsc kbversions fbversions bpersonsc kbpersons fbpersons bpapersc kbpapers fbpapers blinesc kblines fblines bstepsc kbsteps fbsteps bstampsc kbstamps fbstamps bfindingsc kbfindings fbfindings (hkbversions) (hkbpersons) (hkbpapers) (hkblines) (hkbsteps) (hkbstamps) (hkbfindings)) si_X11_274 [0, 1, 2, 3, 4, 5, 6, 7, 8, 9, 10, 11, 12, 13, 14, 15, 16, 17, 18, 19, 20, 21, 22, 23, 24, 25, 26, 27] [] sm_0_1_2_3_4_5_6_7_8_9_10_11_12_13_14_15_16_17_18_19_20_21_22_23_24_25_26_27 fm_0_1_2_3_4_5_6_7_8_9_10_11_12_13_14_15_16_17_18_19_20_21_22_23_24_25_26_27 nd_0_1_2_3_4_5_6_7_8_9_10_11_12_13_14_15_16_17_18_19_20_21_22_23_24_25_26_27 rfl rfl (by decide) rfl rfl rfl rfl rfl (Nat.le_of_ble_eq_true rfl) rm_8_7_6 ⟨Nat.le_of_ble_eq_true rfl, Nat.le_of_ble_eq_true rfl⟩ gX11_leansOn_0.2.2.2.1 (fun r3171 => Ktu13 fun cl13173 gclm3174 gfi3175 gla3176 gml3177 gmm3178 gsl3179 gsm3180 r113181 rc13182 rh13183 gfc3184 gsh3185 => ?_)
  intro H locs hr3171 hP hD hS
  try dsimp only at hr3171
  refine Kpdr (ws := [(h0, oX11 bb kk ikp sg do9 ru9 ta9 tp9 ro9 ho9 de9), (sg, oX7 bb clk fi la ml mm sl sm cl13173), (clk, oX1 clm), (clm, iA G 36 gclm3174), (fi, iA G 12 gfi3175), (la, iA G 12 gla3176), (ml, iA G 12 gml3177), (mm, iA G 12 gmm3178), (sl, iA G 12 gsl3179), (sm, iA G 12 gsm3180), (ru9, oX6 bb sg fc sh r113181 rc13182 rh13183), (fc, iA G 5 gfc3184), (sh, iA G 8 gsh3185), (bb, oX0 bpersons bpapers bstamps bversions blines bsteps bsayings bfindings bwarnings bquestions td vd vl gp), (bversions, oX8 8 3 bversionsc (nI kbversions)), (bversionsc, iA G 24 fbversions), (bpersons, oX8 10 2 bpersonsc (nI kbpersons)), (bpersonsc, iA G 20 fbpersons), (bpapers, oX8 12 6 bpapersc (nI kbpapers)), (bpapersc, iA G 72 fbpapers), (blines, oX8 72 7 blinesc (nI kblines)), (blinesc, iA G 504 fblines), (bsteps, oX8 960 1 bstepsc (nI kbsteps)), (bstepsc, iA G 960 fbsteps), (bstamps, oX8 24 3 bstampsc (nI kbstamps)), (bstampsc, iA G 72 fbstamps), (bfindings, oX8 12 4 bfindingsc (nI kbfindings)), (bfindingsc, iA G 48 fbfindings)]) hP hD (fun hP hD => ?_)
  obtain ⟨hr3171, w3186⟩ := hr3171
  rcases hr3171 with rfl | rfl
  · refine lv_if_ne (tgt := 11) hx hb gX11_leansOn_0.2.2.2.2.1 (by decide) (fun _ => ?_) (fun c9 => absurd c9 (by decide))
    refine lv_iconst (v := 0) hx hb gX11_leansOn_0.2.2.2.2.2.2.2.1 (by decide) ?_
    refine lv_istore_n (lv' := [(3, .int 0), (0, .ref h0), (1, .int x1), (2, .int x2)]) hx hb gX11_leansOn_0.2.2.2.2.2.2.2.2.1 rfl hl (by decide) rfl (fun ls hl => ?_)
    refine lv_iconst (v := 0) hx hb gX11_leansOn_0.2.2.2.2.2.2.2.2.2 (by decide) ?_
    refine lv_istore (lv' := [(4, .int 0), (3, .int 0), (0, .ref h0), (1, .int x1), (2, .int x2)]) hx hb gX11_leansOn_1.1 hl (by decide) rfl (fun ls hl => ?_)
    have keyP : ∀ (nP kP : Nat) (le : Int32) (wcl : Int32) (wr1 : Int32) (wrc : Int32) (wrh : Int32) (vclm : Nat → Int32) (vfi : Nat → Int32) (vla : Nat → Int32) (vml : Nat → Int32) (vmm : Nat → Int32) (vsl : Nat → Int32) (vsm : Nat → Int32) (vfc : Nat → Int32) (vsh : Nat → Int32) (H : Heap) (locs : List Loc) (ls : Array Slot), kP + nP = kbpapers → (wcl = 0 ∨ wcl = 1) → va_PD G A [(h0, oX11 bb kk ikp sg do9 ru9 ta9 tp9 ro9 ho9 de9), (sg, oX7 bb clk fi la ml mm sl sm wcl), (clk, oX1 clm), (clm, iA G 36 vclm), (fi, iA G 12 vfi), (la, iA G 12 vla), (ml, iA G 12 vml), (mm, iA G 12 vmm), (sl, iA G 12 vsl), (sm, iA G 12 vsm), (ru9, oX6 bb sg fc sh wr1 wrc wrh), (fc, iA G 5 vfc), (sh, iA G 8 vsh), (bb, oX0 bpersons bpapers bstamps bversions blines bsteps bsayings bfindings bwarnings bquestions td vd vl gp), (bversions, oX8 8 3 bversionsc (nI kbversions)), (bversionsc, iA G 24 fbversions), (bpersons, oX8 10 2 bpersonsc (nI kbpersons)), (bpersonsc, iA G 20 fbpersons), (bpapers, oX8 12 6 bpapersc (nI kbpapers)), (bpapersc, iA G 72 fbpapers), (blines, oX8 72 7 blinesc (nI kblines)), (blinesc, iA G 504 fblines), (bsteps, oX8 960 1 bstepsc (nI kbsteps)), (bstepsc, iA G 960 fbsteps), (bstamps, oX8 24 3 bstampsc (nI kbstamps)), (bstampsc, iA G 72 fbstamps), (bfindings, oX8 12 4 bfindingsc (nI kbfindings)), (bfindingsc, iA G 48 fbfindings)] H → va_S A s.heap H locs → lv_has ls 5 [(4, .int (nI kP)), (3, .int le), (0, .ref h0), (1, .int x1), (2, .int x2)] → W p l e (RM 8 0 0) s m ([.ref h0, .int x1, .int x2] : List Value).toArray below meth c H locs 0 0 Q0 (F0 m 16 ls []) := by
      intro nP
      induction nP with
      | zero =>
        intro kP le wcl wr1 wrc wrh vclm vfi vla vml vmm vsl vsm vfc vsh H locs ls hkP hwcl hPD hS hl
        refine Kan2 hPD (fun hP hD => ?_)
        obtain rfl : kbpapers = kP := by omega
        have hl : lv_has ls 5 [(4, .int (nI kbpapers)), (3, .int le), (0, .ref h0), (1, .int x1), (2, .int x2)] := hl
        refine lv_iload hx hb gX11_leansOn_1.2.1 (lv_at0 hl) ?_
        refine lv_aload_n hx hb gX11_leansOn_1.2.2.1 rfl (lv_at2 hl) ?_
        refine gf_X11_15 hC rfl hK hP 0 rfl rfl gX11_leansOn_1.2.2.2.1 ?_
        refine gf_X11_144 hC rfl hK hP 13 rfl rfl gX11_leansOn_1.2.2.2.2.1 ?_
        refine pV hC hK hl hP hD (c_T_count l G bpapers 12 6 bpapersc kbpapers) si_X11_174 [18] sm_18 fm_18 nd_18 rfl rfl rfl rfl rfl (Nat.le_of_ble_eq_true rfl) rm_8_1_1 ⟨by first | exact Nat.le_of_ble_eq_true rfl | exact Nat.zero_le _, by first | exact Nat.le_of_ble_eq_true rfl | exact Nat.zero_le _⟩ gX11_leansOn_1.2.2.2.2.2.1 (Keqr ?_)
        refine lv_icmp_ge (tgt := 69) hx hb gX11_leansOn_1.2.2.2.2.2.2.1 (by decide) (fun _ => ?_) (fun c9 => absurd (Int32.le_refl _) c9)
        refine lv_iload_n hx hb gX11_leansOn_4.1 rfl (lv_at1 hl) ?_
        refine toQ hQ0 ?_
        exact RI (v := le) hC hP hD hS [0, 1, 2, 3, 4, 5, 6, 7, 8, 9, 10, 11, 12, 13, 14, 15, 16, 17, 18, 19, 20, 21, 22, 23, 24, 25, 26, 27] (wcl, vclm, vfi, vla, vml, vmm, vsl, vsm, wr1, wrc, wrh, vfc, vsh) rfl rfl (by decide) (⟨trivial, hwcl⟩) rfl gX11_leansOn_4.2
      | succ nP ihP =>
        intro kP le wcl wr1 wrc wrh vclm vfi vla vml vmm vsl vsm vfc vsh H locs ls hkP hwcl hPD hS hl
        refine Kan2 hPD (fun hP hD => ?_)
        refine lv_iload hx hb gX11_leansOn_1.2.1 (lv_at0 hl) ?_
        refine lv_aload_n hx hb gX11_leansOn_1.2.2.1 rfl (lv_at2 hl) ?_
        refine gf_X11_15 hC rfl hK hP 0 rfl rfl gX11_leansOn_1.2.2.2.1 ?_
        refine gf_X11_144 hC rfl hK hP 13 rfl rfl gX11_leansOn_1.2.2.2.2.1 ?_
        refine pV hC hK hl hP hD (c_T_count l G bpapers 12 6 bpapersc kbpapers) si_X11_174 [18] sm_18 fm_18 nd_18 rfl rfl rfl rfl rfl (Nat.le_of_ble_eq_true rfl) rm_8_1_1 ⟨by first | exact Nat.le_of_ble_eq_true rfl | exact Nat.zero_le _, by first | exact Nat.le_of_ble_eq_true rfl | exact Nat.zero_le _⟩ gX11_leansOn_1.2.2.2.2.2.1 (Keqr ?_)
        refine lv_icmp_ge (tgt := 69) hx hb gX11_leansOn_1.2.2.2.2.2.2.1 (by decide) (fun c9 => absurd c9 (nI_ge (a := kP) (b := kbpapers) (by omega) (by omega))) (fun _ => ?_)
        refine lv_iload_n hx hb gX11_leansOn_1.2.2.2.2.2.2.2.1 rfl (lv_at4 hl) ?_
        refine lv_iload hx hb gX11_leansOn_1.2.2.2.2.2.2.2.2.1 (lv_at0 hl) ?_
        refine pS hC hK hl (c_hasBit l G x2 (nI kP)) si_X11_150 rfl rfl (Nat.le_of_ble_eq_true rfl) rm_8_1_2 ⟨by first | exact Nat.le_of_ble_eq_true rfl | exact Nat.zero_le _, by first | exact Nat.le_of_ble_eq_true rfl | exact Nat.zero_le _⟩ gX11_leansOn_1.2.2.2.2.2.2.2.2.2 (Kors (Keqa fun a3193 => ?_) (Keqa fun a3193 => ?_))
        · refine lv_if_eq (tgt := 63) hx hb gX11_leansOn_2.1 (by decide) (fun c9 => absurd c9 (by decide)) (fun _ => ?_)
          refine lv_aload_n hx hb gX11_leansOn_2.2.1 rfl (lv_at2 hl) ?_
          refine lv_iload_n hx hb gX11_leansOn_2.2.2.1 rfl (lv_at3 hl) ?_
          refine lv_iload_n hx hb gX11_leansOn_2.2.2.2.1 rfl (lv_at4 hl) ?_
          refine lv_iconst (v := 1) hx hb gX11_leansOn_2.2.2.2.2.1 (by decide) ?_
          refine lv_iload hx hb gX11_leansOn_2.2.2.2.2.2.1 (lv_at0 hl) ?_
          refine lv_ishl hx hb gX11_leansOn_2.2.2.2.2.2.2.1 ?_
          refine lv_iconst (v := (-1)) hx hb gX11_leansOn_2.2.2.2.2.2.2.2.1 (by decide) ?_
          refine lv_ixor hx hb gX11_leansOn_2.2.2.2.2.2.2.2.2.1 ?_
          refine lv_iand hx hb gX11_leansOn_2.2.2.2.2.2.2.2.2.2 ?_
          refine iV (wr := []) hC hK hl hP hD hS hA (c_stands l G h0 x1 (x2 &&& ((1 <<< ((nI kP) &&& 31)) ^^^ (-1))) bb kk ikp sg do9 ru9 ta9 tp9 ro9 ho9 de9 clk fi la ml mm sl sm wcl clm vclm vfi vla vml vmm vsl vsm fc sh wr1 wrc wrh vfc vsh bpersons bpapers bstamps bversions blines bsteps bsayings bfindings bwarnings bquestions td vd vl gp bversionsc kbversions fbversions bpersonsc kbpersons fbpersons bpapersc kbpapers fbpapers blinesc kblines fblines bstepsc kbsteps fbsteps bstampsc kbstamps fbstamps bfindingsc kbfindings fbfindings (hkbversions) (hkbpersons) (hkbpapers) (hkblines) (hkbsteps) (hkbstamps) (hkbfindings)) si_X11_274 [0, 1, 2, 3, 4, 5, 6, 7, 8, 9, 10, 11, 12, 13, 14, 15, 16, 17, 18, 19, 20, 21, 22, 23, 24, 25, 26, 27] [] sm_0_1_2_3_4_5_6_7_8_9_10_11_12_13_14_15_16_17_18_19_20_21_22_23_24_25_26_27 fm_0_1_2_3_4_5_6_7_8_9_10_11_12_13_14_15_16_17_18_19_20_21_22_23_24_25_26_27 nd_0_1_2_3_4_5_6_7_8_9_10_11_12_13_14_15_16_17_18_19_20_21_22_23_24_25_26_27 rfl rfl (by decide) rfl rfl rfl rfl rfl (Nat.le_of_ble_eq_true rfl) rm_8_7_6 ⟨Nat.le_of_ble_eq_true rfl, Nat.le_of_ble_eq_true rfl⟩ gX11_leansOn_3.1 (fun r3194 => Ktu13 fun cl13196 gclm3197 gfi3198 gla3199 gml3200 gmm3201 gsl3202 gsm3203 r113204 rc13205 rh13206 gfc3207 gsh3208 => ?_)
          intro H locs hr3194 hP hD hS
          try dsimp only at hr3194
          refine Kpdr (ws := [(h0, oX11 bb kk ikp sg do9 ru9 ta9 tp9 ro9 ho9 de9), (sg, oX7 bb clk fi la ml mm sl sm cl13196), (clk, oX1 clm), (clm, iA G 36 gclm3197), (fi, iA G 12 gfi3198), (la, iA G 12 gla3199), (ml, iA G 12 gml3200), (mm, iA G 12 gmm3201), (sl, iA G 12 gsl3202), (sm, iA G 12 gsm3203), (ru9, oX6 bb sg fc sh r113204 rc13205 rh13206), (fc, iA G 5 gfc3207), (sh, iA G 8 gsh3208), (bb, oX0 bpersons bpapers bstamps bversions blines bsteps bsayings bfindings bwarnings bquestions td vd vl gp), (bversions, oX8 8 3 bversionsc (nI kbversions)), (bversionsc, iA G 24 fbversions), (bpersons, oX8 10 2 bpersonsc (nI kbpersons)), (bpersonsc, iA G 20 fbpersons), (bpapers, oX8 12 6 bpapersc (nI kbpapers)), (bpapersc, iA G 72 fbpapers), (blines, oX8 72 7 blinesc (nI kblines)), (blinesc, iA G 504 fblines), (bsteps, oX8 960 1 bstepsc (nI kbsteps)), (bstepsc, iA G 960 fbsteps), (bstamps, oX8 24 3 bstampsc (nI kbstamps)), (bstampsc, iA G 72 fbstamps), (bfindings, oX8 12 4 bfindingsc (nI kbfindings)), (bfindingsc, iA G 48 fbfindings)]) hP hD (fun hP hD => ?_)
          obtain ⟨hr3194, w3209⟩ := hr3194
          rcases hr3194 with rfl | rfl
          · refine lv_if_ne (tgt := 63) hx hb gX11_leansOn_3.2.1 (by decide) (fun _ => ?_) (fun c9 => absurd c9 (by decide))
            refine lv_iinc (v := nI (kP + 1)) (lv' := [(4, .int (nI (kP + 1))), (3, .int le), (0, .ref h0), (1, .int x1), (2, .int x2)]) hx hb gX11_leansOn_3.2.2.2.2.2.2.2.2.1 hl (k := 0) rfl (nI_1 _) (by decide) rfl (fun ls hl => ?_)
            refine lv_goto (tgt := 16) hx hb gX11_leansOn_3.2.2.2.2.2.2.2.2.2 (by decide) ?_
            exact ihP (kP + 1) le cl13196 r113204 rc13205 rh13206 gclm3197 gfi3198 gla3199 gml3200 gmm3201 gsl3202 gsm3203 gfc3207 gsh3208 _ _ _ (by omega) (by first | assumption | exact Or.inl rfl | exact Or.inr rfl) (And.intro hP hD) hS (lv_sub hl [0, 1, 2, 3, 4] rfl)
          · refine lv_if_ne (tgt := 63) hx hb gX11_leansOn_3.2.1 (by decide) (fun c9 => absurd (by decide) c9) (fun _ => ?_)
            refine lv_iload_n hx hb gX11_leansOn_3.2.2.1 rfl (lv_at1 hl) ?_
            refine lv_iconst (v := 1) hx hb gX11_leansOn_3.2.2.2.1 (by decide) ?_
            refine lv_iload hx hb gX11_leansOn_3.2.2.2.2.1 (lv_at0 hl) ?_
            refine lv_ishl hx hb gX11_leansOn_3.2.2.2.2.2.1 ?_
            refine lv_ior hx hb gX11_leansOn_3.2.2.2.2.2.2.1 ?_
            refine lv_istore_n (lv' := [(3, .int (le ||| (1 <<< ((nI kP) &&& 31)))), (4, .int (nI kP)), (0, .ref h0), (1, .int x1), (2, .int x2)]) hx hb gX11_leansOn_3.2.2.2.2.2.2.2.1 rfl hl (by decide) rfl (fun ls hl => ?_)
            refine lv_iinc (v := nI (kP + 1)) (lv' := [(4, .int (nI (kP + 1))), (3, .int (le ||| (1 <<< ((nI kP) &&& 31)))), (0, .ref h0), (1, .int x1), (2, .int x2)]) hx hb gX11_leansOn_3.2.2.2.2.2.2.2.2.1 hl (k := 1) rfl (nI_1 _) (by decide) rfl (fun ls hl => ?_)
            refine lv_goto (tgt := 16) hx hb gX11_leansOn_3.2.2.2.2.2.2.2.2.2 (by decide) ?_
            exact ihP (kP + 1) (le ||| (1 <<< ((nI kP) &&& 31))) cl13196 r113204 rc13205 rh13206 gclm3197 gfi3198 gla3199 gml3200 gmm3201 gsl3202 gsm3203 gfc3207 gsh3208 _ _ _ (by omega) (by first | assumption | exact Or.inl rfl | exact Or.inr rfl) (And.intro hP hD) hS (lv_sub hl [0, 1, 2, 3, 4] rfl)
        · refine lv_if_eq (tgt := 63) hx hb gX11_leansOn_2.1 (by decide) (fun _ => ?_) (fun c9 => absurd (by decide) c9)
          refine lv_iinc (v := nI (kP + 1)) (lv' := [(4, .int (nI (kP + 1))), (3, .int le), (0, .ref h0), (1, .int x1), (2, .int x2)]) hx hb gX11_leansOn_3.2.2.2.2.2.2.2.2.1 hl (k := 0) rfl (nI_1 _) (by decide) rfl (fun ls hl => ?_)
          refine lv_goto (tgt := 16) hx hb gX11_leansOn_3.2.2.2.2.2.2.2.2.2 (by decide) ?_
          exact ihP (kP + 1) le wcl wr1 wrc wrh vclm vfi vla vml vmm vsl vsm vfc vsh _ _ _ (by omega) (by first | assumption | exact Or.inl rfl | exact Or.inr rfl) (And.intro hP hD) hS (lv_sub hl [0, 1, 2, 3, 4] rfl)
    exact keyP kbpapers 0 0 cl13173 r113181 rc13182 rh13183 gclm3174 gfi3175 gla3176 gml3177 gmm3178 gsl3179 gsm3180 gfc3184 gsh3185 _ _ _ (by omega) (by first | assumption | exact Or.inl rfl | exact Or.inr rfl) (And.intro hP hD) hS (lv_sub hl [0, 1, 2, 3, 4] rfl)
  · refine lv_if_ne (tgt := 11) hx hb gX11_leansOn_0.2.2.2.2.1 (by decide) (fun c9 => absurd (by decide) c9) (fun _ => ?_)
    refine lv_iconst (v := 0) hx hb gX11_leansOn_0.2.2.2.2.2.1 (by decide) ?_
    refine toQ hQ0 ?_
    exact RI (v := 0) hC hP hD hS [0, 1, 2, 3, 4, 5, 6, 7, 8, 9, 10, 11, 12, 13, 14, 15, 16, 17, 18, 19, 20, 21, 22, 23, 24, 25, 26, 27] (cl13173, gclm3174, gfi3175, gla3176, gml3177, gmm3178, gsl3179, gsm3180, r113181, rc13182, rh13183, gfc3184, gsh3185) rfl rfl (by decide) (⟨trivial, w3186⟩) rfl gX11_leansOn_0.2.2.2.2.2.2.1
def K_c_countStanding (l : Launch) (G : GG) (h0 : Nat) (x1 : Int32) (bb : Nat) (kk : Nat) (ikp : Int32) (sg : Nat) (do9 : Nat) (ru9 : Nat) (ta9 : Nat) (tp9 : Nat) (ro9 : Nat) (ho9 : Nat) (de9 : Nat) (clk : Nat) (fi : Nat) (la : Nat) (ml : Nat) (mm : Nat) (sl : Nat) (sm : Nat) (cl : Int32) (clm : Nat) (fclm : Nat → Int32) (ffi : Nat → Int32) (fla : Nat → Int32) (fml : Nat → Int32) (fmm : Nat → Int32) (fsl : Nat → Int32) (fsm : Nat → Int32) (fc : Nat) (sh : Nat) (r1 : Int32) (rc : Int32) (rh : Int32) (ffc : Nat → Int32) (fsh : Nat → Int32) (bpersons : Nat) (bpapers : Nat) (bstamps : Nat) (bversions : Nat) (blines : Nat) (bsteps : Nat) (bsayings : Nat) (bfindings : Nat) (bwarnings : Nat) (bquestions : Nat) (td : Int32) (vd : Int32) (vl : Int32) (gp : Int32) (bversionsc : Nat) (kbversions : Nat) (fbversions : Nat → Int32) (bpersonsc : Nat) (kbpersons : Nat) (fbpersons : Nat → Int32) (bpapersc : Nat) (kbpapers : Nat) (fbpapers : Nat → Int32) (blinesc : Nat) (kblines : Nat) (fblines : Nat → Int32) (bstepsc : Nat) (kbsteps : Nat) (fbsteps : Nat → Int32) (bstampsc : Nat) (kbstamps : Nat) (fbstamps : Nat → Int32) (bfindingsc : Nat) (kbfindings : Nat) (fbfindings : Nat → Int32) : Prop := MI l G yX11_countStanding cX11_countStanding 4 (some .int) 8 0 0 [.ref h0, .int x1] [(h0, oX11 bb kk ikp sg do9 ru9 ta9 tp9 ro9 ho9 de9), (sg, oX7 bb clk fi la ml mm sl sm cl), (clk, oX1 clm), (clm, iA G 36 fclm), (fi, iA G 12 ffi), (la, iA G 12 fla), (ml, iA G 12 fml), (mm, iA G 12 fmm), (sl, iA G 12 fsl), (sm, iA G 12 fsm), (ru9, oX6 bb sg fc sh r1 rc rh), (fc, iA G 5 ffc), (sh, iA G 8 fsh), (bb, oX0 bpersons bpapers bstamps bversions blines bsteps bsayings bfindings bwarnings bquestions td vd vl gp), (bversions, oX8 8 3 bversionsc (nI kbversions)), (bversionsc, iA G 24 fbversions), (bpersons, oX8 10 2 bpersonsc (nI kbpersons)), (bpersonsc, iA G 20 fbpersons), (bpapers, oX8 12 6 bpapersc (nI kbpapers)), (bpapersc, iA G 72 fbpapers), (blines, oX8 72 7 blinesc (nI kblines)), (blinesc, iA G 504 fblines), (bsteps, oX8 960 1 bstepsc (nI kbsteps)), (bstepsc, iA G 960 fbsteps), (bstamps, oX8 24 3 bstampsc (nI kbstamps)), (bstampsc, iA G 72 fbstamps), (bfindings, oX8 12 4 bfindingsc (nI kbfindings)), (bfindingsc, iA G 48 fbfindings)] (fun (r : Int32) (u : Int32 × (Nat → Int32) × (Nat → Int32) × (Nat → Int32) × (Nat → Int32) × (Nat → Int32) × (Nat → Int32) × (Nat → Int32) × Int32 × Int32 × Int32 × (Nat → Int32) × (Nat → Int32)) => (True) ∧ (u.1 = 0 ∨ u.1 = 1)) (fun u : Int32 × (Nat → Int32) × (Nat → Int32) × (Nat → Int32) × (Nat → Int32) × (Nat → Int32) × (Nat → Int32) × (Nat → Int32) × Int32 × Int32 × Int32 × (Nat → Int32) × (Nat → Int32) => [(h0, oX11 bb kk ikp sg do9 ru9 ta9 tp9 ro9 ho9 de9), (sg, oX7 bb clk fi la ml mm sl sm u.1), (clk, oX1 clm), (clm, iA G 36 u.2.1), (fi, iA G 12 u.2.2.1), (la, iA G 12 u.2.2.2.1), (ml, iA G 12 u.2.2.2.2.1), (mm, iA G 12 u.2.2.2.2.2.1), (sl, iA G 12 u.2.2.2.2.2.2.1), (sm, iA G 12 u.2.2.2.2.2.2.2.1), (ru9, oX6 bb sg fc sh u.2.2.2.2.2.2.2.2.1 u.2.2.2.2.2.2.2.2.2.1 u.2.2.2.2.2.2.2.2.2.2.1), (fc, iA G 5 u.2.2.2.2.2.2.2.2.2.2.2.1), (sh, iA G 8 u.2.2.2.2.2.2.2.2.2.2.2.2), (bb, oX0 bpersons bpapers bstamps bversions blines bsteps bsayings bfindings bwarnings bquestions td vd vl gp), (bversions, oX8 8 3 bversionsc (nI kbversions)), (bversionsc, iA G 24 fbversions), (bpersons, oX8 10 2 bpersonsc (nI kbpersons)), (bpersonsc, iA G 20 fbpersons), (bpapers, oX8 12 6 bpapersc (nI kbpapers)), (bpapersc, iA G 72 fbpapers), (blines, oX8 72 7 blinesc (nI kblines)), (blinesc, iA G 504 fblines), (bsteps, oX8 960 1 bstepsc (nI kbsteps)), (bstepsc, iA G 960 fbsteps), (bstamps, oX8 24 3 bstampsc (nI kbstamps)), (bstampsc, iA G 72 fbstamps), (bfindings, oX8 12 4 bfindingsc (nI kbfindings)), (bfindingsc, iA G 48 fbfindings)])
set_option maxHeartbeats 4000000 in
set_option maxRecDepth 100000 in
theorem c_countStanding (l : Launch) (G : GG) (h0 : Nat) (x1 : Int32) (bb : Nat) (kk : Nat) (ikp : Int32) (sg : Nat) (do9 : Nat) (ru9 : Nat) (ta9 : Nat) (tp9 : Nat) (ro9 : Nat) (ho9 : Nat) (de9 : Nat) (clk : Nat) (fi : Nat) (la : Nat) (ml : Nat) (mm : Nat) (sl : Nat) (sm : Nat) (cl : Int32) (clm : Nat) (fclm : Nat → Int32) (ffi : Nat → Int32) (fla : Nat → Int32) (fml : Nat → Int32) (fmm : Nat → Int32) (fsl : Nat → Int32) (fsm : Nat → Int32) (fc : Nat) (sh : Nat) (r1 : Int32) (rc : Int32) (rh : Int32) (ffc : Nat → Int32) (fsh : Nat → Int32) (bpersons : Nat) (bpapers : Nat) (bstamps : Nat) (bversions : Nat) (blines : Nat) (bsteps : Nat) (bsayings : Nat) (bfindings : Nat) (bwarnings : Nat) (bquestions : Nat) (td : Int32) (vd : Int32) (vl : Int32) (gp : Int32) (bversionsc : Nat) (kbversions : Nat) (fbversions : Nat → Int32) (bpersonsc : Nat) (kbpersons : Nat) (fbpersons : Nat → Int32) (bpapersc : Nat) (kbpapers : Nat) (fbpapers : Nat → Int32) (blinesc : Nat) (kblines : Nat) (fblines : Nat → Int32) (bstepsc : Nat) (kbsteps : Nat) (fbsteps : Nat → Int32) (bstampsc : Nat) (kbstamps : Nat) (fbstamps : Nat → Int32) (bfindingsc : Nat) (kbfindings : Nat) (fbfindings : Nat → Int32) (hkbversions : kbversions ≤ 8) (hkbpersons : kbpersons ≤ 10) (hkbpapers : kbpapers ≤ 12) (hkblines : kblines ≤ 72) (hkbsteps : kbsteps ≤ 960) (hkbstamps : kbstamps ≤ 24) (hkbfindings : kbfindings ≤ 12) (hcl : cl = 0 ∨ cl = 1) : K_c_countStanding l G h0 x1 bb kk ikp sg do9 ru9 ta9 tp9 ro9 ho9 de9 clk fi la ml mm sl sm cl clm fclm ffi fla fml fmm fsl fsm fc sh r1 rc rh ffc fsh bpersons bpapers bstamps bversions blines bsteps bsayings bfindings bwarnings bquestions td vd vl gp bversionsc kbversions fbversions bpersonsc kbpersons fbpersons bpapersc kbpapers fbpapers blinesc kblines fblines bstepsc kbsteps fbsteps bstampsc kbstamps fbstamps bfindingsc kbfindings fbfindings := by
  refine MI.start (by decide +kernel) (Nat.le_of_ble_eq_true rfl) ?_
  intro p e s m below meth c A ls hC hK hP hD hS hA hl
  refine absQ (fun Q0 hQ0 => ?_)
  have hl : lv_has ls 4 [(0, .ref h0), (1, .int x1)] := hl
  refine Kan8 hC (fun hx hb hr hml hB hown hlocks hnm => ?_)
  refine lv_iconst (v := 0) hx hb gX11_countStanding_0.1 (by decide) ?_
  refine lv_istore_n (lv' := [(2, .int 0), (0, .ref h0), (1, .int x1)]) hx hb gX11_countStanding_0.2.1 rfl hl (by decide) rfl (fun ls hl => ?_)
  refine lv_iconst (v := 0) hx hb gX11_countStanding_0.2.2.1 (by decide) ?_
  refine lv_istore_n (lv' := [(3, .int 0), (2, .int 0), (0, .ref h0), (1, .int x1)]) hx hb gX11_countStanding_0.2.2.2.1 rfl hl (by decide) rfl (fun ls hl => ?_)
  have keyP : ∀ (nP kP : Nat) (cn : Int32) (wcl : Int32) (wr1 : Int32) (wrc : Int32) (wrh : Int32) (vclm : Nat → Int32) (vfi : Nat → Int32) (vla : Nat → Int32) (vml : Nat → Int32) (vmm : Nat → Int32) (vsl : Nat → Int32) (vsm : Nat → Int32) (vfc : Nat → Int32) (vsh : Nat → Int32) (H : Heap) (locs : List Loc) (ls : Array Slot), kP + nP = kbfindings → (wcl = 0 ∨ wcl = 1) → va_PD G A [(h0, oX11 bb kk ikp sg do9 ru9 ta9 tp9 ro9 ho9 de9), (sg, oX7 bb clk fi la ml mm sl sm wcl), (clk, oX1 clm), (clm, iA G 36 vclm), (fi, iA G 12 vfi), (la, iA G 12 vla), (ml, iA G 12 vml), (mm, iA G 12 vmm), (sl, iA G 12 vsl), (sm, iA G 12 vsm), (ru9, oX6 bb sg fc sh wr1 wrc wrh), (fc, iA G 5 vfc), (sh, iA G 8 vsh), (bb, oX0 bpersons bpapers bstamps bversions blines bsteps bsayings bfindings bwarnings bquestions td vd vl gp), (bversions, oX8 8 3 bversionsc (nI kbversions)), (bversionsc, iA G 24 fbversions), (bpersons, oX8 10 2 bpersonsc (nI kbpersons)), (bpersonsc, iA G 20 fbpersons), (bpapers, oX8 12 6 bpapersc (nI kbpapers)), (bpapersc, iA G 72 fbpapers), (blines, oX8 72 7 blinesc (nI kblines)), (blinesc, iA G 504 fblines), (bsteps, oX8 960 1 bstepsc (nI kbsteps)), (bstepsc, iA G 960 fbsteps), (bstamps, oX8 24 3 bstampsc (nI kbstamps)), (bstampsc, iA G 72 fbstamps), (bfindings, oX8 12 4 bfindingsc (nI kbfindings)), (bfindingsc, iA G 48 fbfindings)] H → va_S A s.heap H locs → lv_has ls 4 [(3, .int (nI kP)), (2, .int cn), (0, .ref h0), (1, .int x1)] → W p l e (RM 8 0 0) s m ([.ref h0, .int x1] : List Value).toArray below meth c H locs 0 0 Q0 (F0 m 4 ls []) := by
    intro nP
    induction nP with
    | zero =>
      intro kP cn wcl wr1 wrc wrh vclm vfi vla vml vmm vsl vsm vfc vsh H locs ls hkP hwcl hPD hS hl
      refine Kan2 hPD (fun hP hD => ?_)
      obtain rfl : kbfindings = kP := by omega
      have hl : lv_has ls 4 [(3, .int (nI kbfindings)), (2, .int cn), (0, .ref h0), (1, .int x1)] := hl
      refine lv_iload_n hx hb gX11_countStanding_0.2.2.2.2.1 rfl (lv_at0 hl) ?_
      refine lv_aload_n hx hb gX11_countStanding_0.2.2.2.2.2.1 rfl (lv_at2 hl) ?_
      refine gf_X11_15 hC rfl hK hP 0 rfl rfl gX11_countStanding_0.2.2.2.2.2.2.1 ?_
      refine gf_X11_271 hC rfl hK hP 13 rfl rfl gX11_countStanding_0.2.2.2.2.2.2.2.1 ?_
      refine pV hC hK hl hP hD (c_T_count l G bfindings 12 4 bfindingsc kbfindings) si_X11_174 [26] sm_26 fm_26 nd_26 rfl rfl rfl rfl rfl (Nat.le_of_ble_eq_true rfl) rm_8_1_1 ⟨by first | exact Nat.le_of_ble_eq_true rfl | exact Nat.zero_le _, by first | exact Nat.le_of_ble_eq_true rfl | exact Nat.zero_le _⟩ gX11_countStanding_0.2.2.2.2.2.2.2.2.1 (Keqr ?_)
      refine lv_icmp_ge (tgt := 36) hx hb gX11_countStanding_0.2.2.2.2.2.2.2.2.2 (by decide) (fun _ => ?_) (fun c9 => absurd (Int32.le_refl _) c9)
      refine lv_iload_n hx hb gX11_countStanding_1.2.2.2.2.2.2.2.2.1 rfl (lv_at1 hl) ?_
      refine toQ hQ0 ?_
      exact RI (v := cn) hC hP hD hS [0, 1, 2, 3, 4, 5, 6, 7, 8, 9, 10, 11, 12, 13, 14, 15, 16, 17, 18, 19, 20, 21, 22, 23, 24, 25, 26, 27] (wcl, vclm, vfi, vla, vml, vmm, vsl, vsm, wr1, wrc, wrh, vfc, vsh) rfl rfl (by decide) (⟨trivial, hwcl⟩) rfl gX11_countStanding_1.2.2.2.2.2.2.2.2.2
    | succ nP ihP =>
      intro kP cn wcl wr1 wrc wrh vclm vfi vla vml vmm vsl vsm vfc vsh H locs ls hkP hwcl hPD hS hl
      refine Kan2 hPD (fun hP hD => ?_)
      refine lv_iload_n hx hb gX11_countStanding_0.2.2.2.2.1 rfl (lv_at0 hl) ?_
      refine lv_aload_n hx hb gX11_countStanding_0.2.2.2.2.2.1 rfl (lv_at2 hl) ?_
      refine gf_X11_15 hC rfl hK hP 0 rfl rfl gX11_countStanding_0.2.2.2.2.2.2.1 ?_
      refine gf_X11_271 hC rfl hK hP 13 rfl rfl gX11_countStanding_0.2.2.2.2.2.2.2.1 ?_
      refine pV hC hK hl hP hD (c_T_count l G bfindings 12 4 bfindingsc kbfindings) si_X11_174 [26] sm_26 fm_26 nd_26 rfl rfl rfl rfl rfl (Nat.le_of_ble_eq_true rfl) rm_8_1_1 ⟨by first | exact Nat.le_of_ble_eq_true rfl | exact Nat.zero_le _, by first | exact Nat.le_of_ble_eq_true rfl | exact Nat.zero_le _⟩ gX11_countStanding_0.2.2.2.2.2.2.2.2.1 (Keqr ?_)
      refine lv_icmp_ge (tgt := 36) hx hb gX11_countStanding_0.2.2.2.2.2.2.2.2.2 (by decide) (fun c9 => absurd c9 (nI_ge (a := kP) (b := kbfindings) (by omega) (by omega))) (fun _ => ?_)
      refine lv_aload_n hx hb gX11_countStanding_1.1 rfl (lv_at2 hl) ?_
      refine lv_iload_n hx hb gX11_countStanding_1.2.1 rfl (lv_at0 hl) ?_
      refine lv_iload_n hx hb gX11_countStanding_1.2.2.1 rfl (lv_at3 hl) ?_
      refine iV (wr := []) hC hK hl hP hD hS hA (c_stands l G h0 (nI kP) x1 bb kk ikp sg do9 ru9 ta9 tp9 ro9 ho9 de9 clk fi la ml mm sl sm wcl clm vclm vfi vla vml vmm vsl vsm fc sh wr1 wrc wrh vfc vsh bpersons bpapers bstamps bversions blines bsteps bsayings bfindings bwarnings bquestions td vd vl gp bversionsc kbversions fbversions bpersonsc kbpersons fbpersons bpapersc kbpapers fbpapers blinesc kblines fblines bstepsc kbsteps fbsteps bstampsc kbstamps fbstamps bfindingsc kbfindings fbfindings (hkbversions) (hkbpersons) (hkbpapers) (hkblines) (hkbsteps) (hkbstamps) (hkbfindings)) si_X11_274 [0, 1, 2, 3, 4, 5, 6, 7, 8, 9, 10, 11, 12, 13, 14, 15, 16, 17, 18, 19, 20, 21, 22, 23, 24, 25, 26, 27] [] sm_0_1_2_3_4_5_6_7_8_9_10_11_12_13_14_15_16_17_18_19_20_21_22_23_24_25_26_27 fm_0_1_2_3_4_5_6_7_8_9_10_11_12_13_14_15_16_17_18_19_20_21_22_23_24_25_26_27 nd_0_1_2_3_4_5_6_7_8_9_10_11_12_13_14_15_16_17_18_19_20_21_22_23_24_25_26_27 rfl rfl (by decide) rfl rfl rfl rfl rfl (Nat.le_of_ble_eq_true rfl) rm_8_7_6 ⟨Nat.le_of_ble_eq_true rfl, Nat.le_of_ble_eq_true rfl⟩ gX11_countStanding_1.2.2.2.1 (fun r3215 => Ktu13 fun cl13217 gclm3218 gfi3219 gla3220 gml3221 gmm3222 gsl3223 gsm3224 r113225 rc13226 rh13227 gfc3228 gsh3229 => ?_)
      intro H locs hr3215 hP hD hS
      try dsimp only at hr3215
      refine Kpdr (ws := [(h0, oX11 bb kk ikp sg do9 ru9 ta9 tp9 ro9 ho9 de9), (sg, oX7 bb clk fi la ml mm sl sm cl13217), (clk, oX1 clm), (clm, iA G 36 gclm3218), (fi, iA G 12 gfi3219), (la, iA G 12 gla3220), (ml, iA G 12 gml3221), (mm, iA G 12 gmm3222), (sl, iA G 12 gsl3223), (sm, iA G 12 gsm3224), (ru9, oX6 bb sg fc sh r113225 rc13226 rh13227), (fc, iA G 5 gfc3228), (sh, iA G 8 gsh3229), (bb, oX0 bpersons bpapers bstamps bversions blines bsteps bsayings bfindings bwarnings bquestions td vd vl gp), (bversions, oX8 8 3 bversionsc (nI kbversions)), (bversionsc, iA G 24 fbversions), (bpersons, oX8 10 2 bpersonsc (nI kbpersons)), (bpersonsc, iA G 20 fbpersons), (bpapers, oX8 12 6 bpapersc (nI kbpapers)), (bpapersc, iA G 72 fbpapers), (blines, oX8 72 7 blinesc (nI kblines)), (blinesc, iA G 504 fblines), (bsteps, oX8 960 1 bstepsc (nI kbsteps)), (bstepsc, iA G 960 fbsteps), (bstamps, oX8 24 3 bstampsc (nI kbstamps)), (bstampsc, iA G 72 fbstamps), (bfindings, oX8 12 4 bfindingsc (nI kbfindings)), (bfindingsc, iA G 48 fbfindings)]) hP hD (fun hP hD => ?_)
      obtain ⟨hr3215, w3230⟩ := hr3215
      rcases hr3215 with rfl | rfl
      · refine lv_if_eq (tgt := 30) hx hb gX11_countStanding_1.2.2.2.2.1 (by decide) (fun c9 => absurd c9 (by decide)) (fun _ => ?_)
        refine lv_iinc (v := cn + 1) (lv' := [(2, .int (cn + 1)), (3, .int (nI kP)), (0, .ref h0), (1, .int x1)]) hx hb gX11_countStanding_1.2.2.2.2.2.1 hl (k := 1) rfl (rfl) (by decide) rfl (fun ls hl => ?_)
        refine lv_iinc (v := nI (kP + 1)) (lv' := [(3, .int (nI (kP + 1))), (2, .int (cn + 1)), (0, .ref h0), (1, .int x1)]) hx hb gX11_countStanding_1.2.2.2.2.2.2.1 hl (k := 1) rfl (nI_1 _) (by decide) rfl (fun ls hl => ?_)
        refine lv_goto (tgt := 4) hx hb gX11_countStanding_1.2.2.2.2.2.2.2.1 (by decide) ?_
        exact ihP (kP + 1) (cn + 1) cl13217 r113225 rc13226 rh13227 gclm3218 gfi3219 gla3220 gml3221 gmm3222 gsl3223 gsm3224 gfc3228 gsh3229 _ _ _ (by omega) (by first | assumption | exact Or.inl rfl | exact Or.inr rfl) (And.intro hP hD) hS (lv_sub hl [0, 1, 2, 3] rfl)
      · refine lv_if_eq (tgt := 30) hx hb gX11_countStanding_1.2.2.2.2.1 (by decide) (fun _ => ?_) (fun c9 => absurd (by decide) c9)
        refine lv_iinc (v := nI (kP + 1)) (lv' := [(3, .int (nI (kP + 1))), (2, .int cn), (0, .ref h0), (1, .int x1)]) hx hb gX11_countStanding_1.2.2.2.2.2.2.1 hl (k := 0) rfl (nI_1 _) (by decide) rfl (fun ls hl => ?_)
        refine lv_goto (tgt := 4) hx hb gX11_countStanding_1.2.2.2.2.2.2.2.1 (by decide) ?_
        exact ihP (kP + 1) cn cl13217 r113225 rc13226 rh13227 gclm3218 gfi3219 gla3220 gml3221 gmm3222 gsl3223 gsm3224 gfc3228 gsh3229 _ _ _ (by omega) (by first | assumption | exact Or.inl rfl | exact Or.inr rfl) (And.intro hP hD) hS (lv_sub hl [0, 1, 2, 3] rfl)
  exact keyP kbfindings 0 0 cl r1 rc rh fclm ffi fla fml fmm fsl fsm ffc fsh _ _ _ (by omega) (by first | assumption | exact Or.inl rfl | exact Or.inr rfl) (And.intro hP hD) hS (lv_sub hl [0, 1, 2, 3] rfl)
def K_c_isBarred (l : Launch) (G : GG) (h0 : Nat) (x1 : Int32) (x2 : Int32) (x3 : Int32) (bb : Nat) (kk : Nat) (ikp : Int32) (sg : Nat) (do9 : Nat) (ru9 : Nat) (ta9 : Nat) (tp9 : Nat) (ro9 : Nat) (ho9 : Nat) (de9 : Nat) (fc : Nat) (sh : Nat) (r1 : Int32) (rc : Int32) (rh : Int32) (ffc : Nat → Int32) (fsh : Nat → Int32) (bpersons : Nat) (bpapers : Nat) (bstamps : Nat) (bversions : Nat) (blines : Nat) (bsteps : Nat) (bsayings : Nat) (bfindings : Nat) (bwarnings : Nat) (bquestions : Nat) (td : Int32) (vd : Int32) (vl : Int32) (gp : Int32) (bversionsc : Nat) (kbversions : Nat) (fbversions : Nat → Int32) (bpersonsc : Nat) (kbpersons : Nat) (fbpersons : Nat → Int32) (bpapersc : Nat) (kbpapers : Nat) (fbpapers : Nat → Int32) (blinesc : Nat) (kblines : Nat) (fblines : Nat → Int32) (bstepsc : Nat) (kbsteps : Nat) (fbsteps : Nat → Int32) (bfindingsc : Nat) (kbfindings : Nat) (fbfindings : Nat → Int32) (bsayingsc : Nat) (kbsayings : Nat) (fbsayings : Nat → Int32) (bwarningsc : Nat) (kbwarnings : Nat) (fbwarnings : Nat → Int32) : Prop := MI l G yX11_isBarred cX11_isBarred 7 (some .boolean) 7 0 0 [.ref h0, .int x1, .int x2, .int x3] [(h0, oX11 bb kk ikp sg do9 ru9 ta9 tp9 ro9 ho9 de9), (ru9, oX6 bb sg fc sh r1 rc rh), (fc, iA G 5 ffc), (sh, iA G 8 fsh), (bb, oX0 bpersons bpapers bstamps bversions blines bsteps bsayings bfindings bwarnings bquestions td vd vl gp), (bversions, oX8 8 3 bversionsc (nI kbversions)), (bversionsc, iA G 24 fbversions), (bpersons, oX8 10 2 bpersonsc (nI kbpersons)), (bpersonsc, iA G 20 fbpersons), (bpapers, oX8 12 6 bpapersc (nI kbpapers)), (bpapersc, iA G 72 fbpapers), (blines, oX8 72 7 blinesc (nI kblines)), (blinesc, iA G 504 fblines), (bsteps, oX8 960 1 bstepsc (nI kbsteps)), (bstepsc, iA G 960 fbsteps), (bfindings, oX8 12 4 bfindingsc (nI kbfindings)), (bfindingsc, iA G 48 fbfindings), (bsayings, oX8 16 8 bsayingsc (nI kbsayings)), (bsayingsc, iA G 128 fbsayings), (bwarnings, oX8 16 3 bwarningsc (nI kbwarnings)), (bwarningsc, iA G 48 fbwarnings)] (fun (r : Int32) (u : Int32 × Int32 × Int32 × (Nat → Int32)) => (r = 1 ∨ r = 0)) (fun u : Int32 × Int32 × Int32 × (Nat → Int32) => [(h0, oX11 bb kk ikp sg do9 ru9 ta9 tp9 ro9 ho9 de9), (ru9, oX6 bb sg fc sh u.1 u.2.1 u.2.2.1), (fc, iA G 5 u.2.2.2), (sh, iA G 8 fsh), (bb, oX0 bpersons bpapers bstamps bversions blines bsteps bsayings bfindings bwarnings bquestions td vd vl gp), (bversions, oX8 8 3 bversionsc (nI kbversions)), (bversionsc, iA G 24 fbversions), (bpersons, oX8 10 2 bpersonsc (nI kbpersons)), (bpersonsc, iA G 20 fbpersons), (bpapers, oX8 12 6 bpapersc (nI kbpapers)), (bpapersc, iA G 72 fbpapers), (blines, oX8 72 7 blinesc (nI kblines)), (blinesc, iA G 504 fblines), (bsteps, oX8 960 1 bstepsc (nI kbsteps)), (bstepsc, iA G 960 fbsteps), (bfindings, oX8 12 4 bfindingsc (nI kbfindings)), (bfindingsc, iA G 48 fbfindings), (bsayings, oX8 16 8 bsayingsc (nI kbsayings)), (bsayingsc, iA G 128 fbsayings), (bwarnings, oX8 16 3 bwarningsc (nI kbwarnings)), (bwarningsc, iA G 48 fbwarnings)])
set_option maxHeartbeats 4000000 in
set_option maxRecDepth 100000 in
theorem c_isBarred (l : Launch) (G : GG) (h0 : Nat) (x1 : Int32) (x2 : Int32) (x3 : Int32) (bb : Nat) (kk : Nat) (ikp : Int32) (sg : Nat) (do9 : Nat) (ru9 : Nat) (ta9 : Nat) (tp9 : Nat) (ro9 : Nat) (ho9 : Nat) (de9 : Nat) (fc : Nat) (sh : Nat) (r1 : Int32) (rc : Int32) (rh : Int32) (ffc : Nat → Int32) (fsh : Nat → Int32) (bpersons : Nat) (bpapers : Nat) (bstamps : Nat) (bversions : Nat) (blines : Nat) (bsteps : Nat) (bsayings : Nat) (bfindings : Nat) (bwarnings : Nat) (bquestions : Nat) (td : Int32) (vd : Int32) (vl : Int32) (gp : Int32) (bversionsc : Nat) (kbversions : Nat) (fbversions : Nat → Int32) (bpersonsc : Nat) (kbpersons : Nat) (fbpersons : Nat → Int32) (bpapersc : Nat) (kbpapers : Nat) (fbpapers : Nat → Int32) (blinesc : Nat) (kblines : Nat) (fblines : Nat → Int32) (bstepsc : Nat) (kbsteps : Nat) (fbsteps : Nat → Int32) (bfindingsc : Nat) (kbfindings : Nat) (fbfindings : Nat → Int32) (bsayingsc : Nat) (kbsayings : Nat) (fbsayings : Nat → Int32) (bwarningsc : Nat) (kbwarnings : Nat) (fbwarnings : Nat → Int32) (hkbversions : kbversions ≤ 8) (hkbpersons : kbpersons ≤ 10) (hkbpapers : kbpapers ≤ 12) (hkblines : kblines ≤ 72) (hkbsteps : kbsteps ≤ 960) (hkbfindings : kbfindings ≤ 12) (hkbsayings : kbsayings ≤ 16) (hkbwarnings : kbwarnings ≤ 16) : K_c_isBarred l G h0 x1 x2 x3 bb kk ikp sg do9 ru9 ta9 tp9 ro9 ho9 de9 fc sh r1 rc rh ffc fsh bpersons bpapers bstamps bversions blines bsteps bsayings bfindings bwarnings bquestions td vd vl gp bversionsc kbversions fbversions bpersonsc kbpersons fbpersons bpapersc kbpapers fbpapers blinesc kblines fblines bstepsc kbsteps fbsteps bfindingsc kbfindings fbfindings bsayingsc kbsayings fbsayings bwarningsc kbwarnings fbwarnings := by
  refine MI.start (by decide +kernel) (Nat.le_of_ble_eq_true rfl) ?_
  intro p e s m below meth c A ls hC hK hP hD hS hA hl
  refine absQ (fun Q0 hQ0 => ?_)
  have hl : lv_has ls 7 [(0, .ref h0), (1, .int x1), (2, .int x2), (3, .int x3)] := hl
  refine Kan8 hC (fun hx hb hr hml hB hown hlocks hnm => ?_)
  refine lv_aload_n hx hb gX11_isBarred_0.1 rfl (lv_at0 hl) ?_
  refine gf_X11_15 hC rfl hK hP 0 rfl rfl gX11_isBarred_0.2.1 ?_
  refine gf_X11_271 hC rfl hK hP 4 rfl rfl gX11_isBarred_0.2.2.1 ?_
  refine lv_iload_n hx hb gX11_isBarred_0.2.2.2.1 rfl (lv_at1 hl) ?_
  refine lv_iconst (v := 0) hx hb gX11_isBarred_0.2.2.2.2.1 (by decide) ?_
  refine pV hC hK hl hP hD (c_T_at l G bfindings x1 0 12 4 bfindingsc kbfindings fbfindings (hkbfindings) (by omega) (by omega)) si_X11_128 [15, 16] sm_15_16 fm_15_16 nd_15_16 rfl rfl rfl rfl rfl (Nat.le_of_ble_eq_true rfl) rm_7_1_3 ⟨by first | exact Nat.le_of_ble_eq_true rfl | exact Nat.zero_le _, by first | exact Nat.le_of_ble_eq_true rfl | exact Nat.zero_le _⟩ gX11_isBarred_0.2.2.2.2.2.1 (fun r3232 hr3232 => ?_)
  refine lv_istore (lv' := [(4, .int r3232), (0, .ref h0), (1, .int x1), (2, .int x2), (3, .int x3)]) hx hb gX11_isBarred_0.2.2.2.2.2.2.1 hl (by decide) rfl (fun ls hl => ?_)
  refine lv_aload_n hx hb gX11_isBarred_0.2.2.2.2.2.2.2.1 rfl (lv_at1 hl) ?_
  refine gf_X11_44 hC rfl hK hP 0 rfl rfl gX11_isBarred_0.2.2.2.2.2.2.2.2.1 ?_
  refine lv_iload hx hb gX11_isBarred_0.2.2.2.2.2.2.2.2.2 (lv_at0 hl) ?_
  refine lv_iload_n hx hb gX11_isBarred_1.1 rfl (lv_at3 hl) ?_
  refine vV (wr := [(h0, oX11 bb kk ikp sg do9 ru9 ta9 tp9 ro9 ho9 de9), (sh, iA G 8 fsh), (bfindings, oX8 12 4 bfindingsc (nI kbfindings)), (bfindingsc, iA G 48 fbfindings), (bsayings, oX8 16 8 bsayingsc (nI kbsayings)), (bsayingsc, iA G 128 fbsayings), (bwarnings, oX8 16 3 bwarningsc (nI kbwarnings)), (bwarningsc, iA G 48 fbwarnings)]) hC hK hl hP hD hS hA (c_consider l G ru9 r3232 x2 bb sg fc sh r1 rc rh ffc bpersons bpapers bstamps bversions blines bsteps bsayings bfindings bwarnings bquestions td vd vl gp bversionsc kbversions fbversions bpersonsc kbpersons fbpersons bpapersc kbpapers fbpapers blinesc kblines fblines bstepsc kbsteps fbsteps (hkbversions) (hkbpersons) (hkbpapers) (hkblines) (hkbsteps)) si_X11_364 [1, 2, 4, 5, 6, 7, 8, 9, 10, 11, 12, 13, 14] [0, 3, 15, 16, 17, 18, 19, 20] sm_1_2_4_5_6_7_8_9_10_11_12_13_14 fm_1_2_4_5_6_7_8_9_10_11_12_13_14 nd_1_2_4_5_6_7_8_9_10_11_12_13_14 sm_0_3_15_16_17_18_19_20 nd_0_3_15_16_17_18_19_20 dj_1_2_4_5_6_7_8_9_10_11_12_13_14__0_3_15_16_17_18_19_20 rfl rfl rfl rfl rfl (Nat.le_of_ble_eq_true rfl) rm_7_4_5 ⟨Nat.le_of_ble_eq_true rfl, Nat.le_of_ble_eq_true rfl⟩ gX11_isBarred_1.2.1 (Ktu4 fun r113236 rc13237 rh13238 gfc3239 => ?_)
  intro H locs hr3234 hP hD hS
  try dsimp only at hr3234
  refine Kpdr (ws := [(h0, oX11 bb kk ikp sg do9 ru9 ta9 tp9 ro9 ho9 de9), (sh, iA G 8 fsh), (bfindings, oX8 12 4 bfindingsc (nI kbfindings)), (bfindingsc, iA G 48 fbfindings), (bsayings, oX8 16 8 bsayingsc (nI kbsayings)), (bsayingsc, iA G 128 fbsayings), (bwarnings, oX8 16 3 bwarningsc (nI kbwarnings)), (bwarningsc, iA G 48 fbwarnings), (ru9, oX6 bb sg fc sh r113236 rc13237 rh13238), (fc, iA G 5 gfc3239), (bb, oX0 bpersons bpapers bstamps bversions blines bsteps bsayings bfindings bwarnings bquestions td vd vl gp), (bversions, oX8 8 3 bversionsc (nI kbversions)), (bversionsc, iA G 24 fbversions), (bpersons, oX8 10 2 bpersonsc (nI kbpersons)), (bpersonsc, iA G 20 fbpersons), (bpapers, oX8 12 6 bpapersc (nI kbpapers)), (bpapersc, iA G 72 fbpapers), (blines, oX8 72 7 blinesc (nI kblines)), (blinesc, iA G 504 fblines), (bsteps, oX8 960 1 bstepsc (nI kbsteps)), (bstepsc, iA G 960 fbsteps)]) hP hD (fun hP hD => ?_)
  refine lv_aload_n hx hb gX11_isBarred_1.2.2.1 rfl (lv_at1 hl) ?_
  refine gf_X11_15 hC rfl hK hP 0 rfl rfl gX11_isBarred_1.2.2.2.1 ?_
  refine lv_iload hx hb gX11_isBarred_1.2.2.2.2.1 (lv_at0 hl) ?_
  refine lv_iload_n hx hb gX11_isBarred_1.2.2.2.2.2.1 rfl (lv_at3 hl) ?_
  refine pV hC hK hl hP hD (c_countSayingsBy l G bb r3232 x2 bpersons bpapers bstamps bversions blines bsteps bsayings bfindings bwarnings bquestions td vd vl gp bsayingsc kbsayings fbsayings (hkbsayings)) si_X11_138 [10, 4, 5] sm_10_4_5 fm_10_4_5 nd_10_4_5 rfl rfl rfl rfl rfl (Nat.le_of_ble_eq_true rfl) rm_7_4_5 ⟨by first | exact Nat.le_of_ble_eq_true rfl | exact Nat.zero_le _, by first | exact Nat.le_of_ble_eq_true rfl | exact Nat.zero_le _⟩ gX11_isBarred_1.2.2.2.2.2.2.1 (fun r3240 hr3240 => ?_)
  refine lv_aload_n hx hb gX11_isBarred_1.2.2.2.2.2.2.2.1 rfl (lv_at1 hl) ?_
  refine gf_X11_44 hC rfl hK hP 0 rfl rfl gX11_isBarred_1.2.2.2.2.2.2.2.2.1 ?_
  refine pV hC hK hl hP hD (c_leastHeard l G ru9 bb sg fc sh r113236 rc13237 rh13238 bpersons bpapers bstamps bversions blines bsteps bsayings bfindings bwarnings bquestions td vd vl gp blinesc kblines fblines (hkblines)) si_X11_367 [8, 10, 17, 18] sm_8_10_17_18 fm_8_10_17_18 nd_8_10_17_18 rfl rfl rfl rfl rfl (Nat.le_of_ble_eq_true rfl) rm_7_4_3 ⟨by first | exact Nat.le_of_ble_eq_true rfl | exact Nat.zero_le _, by first | exact Nat.le_of_ble_eq_true rfl | exact Nat.zero_le _⟩ gX11_isBarred_1.2.2.2.2.2.2.2.2.2 (fun r3241 hr3241 => ?_)
  refine lv_icmp_ge (tgt := 46) hx hb gX11_isBarred_2.1 (by decide) (fun c_41_3242 => ?_) (fun c_41_3242 => ?_)
  · refine lv_aload_n hx hb gX11_isBarred_2.2.2.2.1 rfl (lv_at1 hl) ?_
    refine gf_X11_15 hC rfl hK hP 0 rfl rfl gX11_isBarred_2.2.2.2.2.1 ?_
    refine pV hC hK hl hP hD (c_viewedDay l G bb bpersons bpapers bstamps bversions blines bsteps bsayings bfindings bwarnings bquestions td vd vl gp) si_X11_370 [10] sm_10 fm_10 nd_10 rfl rfl rfl rfl rfl (Nat.le_of_ble_eq_true rfl) rm_7_1_1 ⟨by first | exact Nat.le_of_ble_eq_true rfl | exact Nat.zero_le _, by first | exact Nat.le_of_ble_eq_true rfl | exact Nat.zero_le _⟩ gX11_isBarred_2.2.2.2.2.2.1 (fun r3243 hr3243 => ?_)
    rcases hr3243 with ⟨hE9, a3244⟩ | ⟨hE9, a3244⟩
    · refine eqi (x1 := td) hE9 ?_
      refine lv_aload_n hx hb gX11_isBarred_2.2.2.2.2.2.2.1 rfl (lv_at1 hl) ?_
      refine gf_X11_44 hC rfl hK hP 0 rfl rfl gX11_isBarred_2.2.2.2.2.2.2.2.1 ?_
      refine pV hC hK hl hP hD (c_warnDays l G ru9 bb sg fc sh r113236 rc13237 rh13238 bpersons bpapers bstamps bversions blines bsteps bsayings bfindings bwarnings bquestions td vd vl gp blinesc kblines fblines (hkblines)) si_X11_373 [8, 10, 17, 18] sm_8_10_17_18 fm_8_10_17_18 nd_8_10_17_18 rfl rfl rfl rfl rfl (Nat.le_of_ble_eq_true rfl) rm_7_4_3 ⟨by first | exact Nat.le_of_ble_eq_true rfl | exact Nat.zero_le _, by first | exact Nat.le_of_ble_eq_true rfl | exact Nat.zero_le _⟩ gX11_isBarred_2.2.2.2.2.2.2.2.2.1 (fun r3245 hr3245 => ?_)
      refine lv_isub hx hb gX11_isBarred_2.2.2.2.2.2.2.2.2.2 ?_
      refine lv_istore (lv' := [(5, .int (td - r3245)), (4, .int r3232), (0, .ref h0), (1, .int x1), (2, .int x2), (3, .int x3)]) hx hb gX11_isBarred_3.1 hl (by decide) rfl (fun ls hl => ?_)
      refine lv_iconst (v := 0) hx hb gX11_isBarred_3.2.1 (by decide) ?_
      refine lv_istore (lv' := [(6, .int 0), (5, .int (td - r3245)), (4, .int r3232), (0, .ref h0), (1, .int x1), (2, .int x2), (3, .int x3)]) hx hb gX11_isBarred_3.2.2.1 hl (by decide) rfl (fun ls hl => ?_)
      have keyP : ∀ (nP kP : Nat) (H : Heap) (locs : List Loc) (ls : Array Slot), kP + nP = kbpapers → va_PD G A [(h0, oX11 bb kk ikp sg do9 ru9 ta9 tp9 ro9 ho9 de9), (sh, iA G 8 fsh), (bfindings, oX8 12 4 bfindingsc (nI kbfindings)), (bfindingsc, iA G 48 fbfindings), (bsayings, oX8 16 8 bsayingsc (nI kbsayings)), (bsayingsc, iA G 128 fbsayings), (bwarnings, oX8 16 3 bwarningsc (nI kbwarnings)), (bwarningsc, iA G 48 fbwarnings), (ru9, oX6 bb sg fc sh r113236 rc13237 rh13238), (fc, iA G 5 gfc3239), (bb, oX0 bpersons bpapers bstamps bversions blines bsteps bsayings bfindings bwarnings bquestions td vd vl gp), (bversions, oX8 8 3 bversionsc (nI kbversions)), (bversionsc, iA G 24 fbversions), (bpersons, oX8 10 2 bpersonsc (nI kbpersons)), (bpersonsc, iA G 20 fbpersons), (bpapers, oX8 12 6 bpapersc (nI kbpapers)), (bpapersc, iA G 72 fbpapers), (blines, oX8 72 7 blinesc (nI kblines)), (blinesc, iA G 504 fblines), (bsteps, oX8 960 1 bstepsc (nI kbsteps)), (bstepsc, iA G 960 fbsteps)] H → va_S A s.heap H locs → lv_has ls 7 [(6, .int (nI kP)), (5, .int (td - r3245)), (4, .int r3232), (0, .ref h0), (1, .int x1), (2, .int x2), (3, .int x3)] → W p l e (RM 7 0 0) s m ([.ref h0, .int x1, .int x2, .int x3] : List Value).toArray below meth c H locs 0 0 Q0 (F0 m 66 ls []) := by
        intro nP
        induction nP with
        | zero =>
          intro kP H locs ls hkP hPD hS hl
          refine Kan2 hPD (fun hP hD => ?_)
          obtain rfl : kbpapers = kP := by omega
          have hl : lv_has ls 7 [(6, .int (nI kbpapers)), (5, .int (td - r3245)), (4, .int r3232), (0, .ref h0), (1, .int x1), (2, .int x2), (3, .int x3)] := hl
          refine lv_iload hx hb gX11_isBarred_3.2.2.2.1 (lv_at0 hl) ?_
          refine lv_aload_n hx hb gX11_isBarred_3.2.2.2.2.1 rfl (lv_at3 hl) ?_
          refine gf_X11_15 hC rfl hK hP 0 rfl rfl gX11_isBarred_3.2.2.2.2.2.1 ?_
          refine gf_X11_144 hC rfl hK hP 10 rfl rfl gX11_isBarred_3.2.2.2.2.2.2.1 ?_
          refine pV hC hK hl hP hD (c_T_count l G bpapers 12 6 bpapersc kbpapers) si_X11_174 [15] sm_15 fm_15 nd_15 rfl rfl rfl rfl rfl (Nat.le_of_ble_eq_true rfl) rm_7_1_1 ⟨by first | exact Nat.le_of_ble_eq_true rfl | exact Nat.zero_le _, by first | exact Nat.le_of_ble_eq_true rfl | exact Nat.zero_le _⟩ gX11_isBarred_3.2.2.2.2.2.2.2.1 (Keqr ?_)
          refine lv_icmp_ge (tgt := 114) hx hb gX11_isBarred_3.2.2.2.2.2.2.2.2.1 (by decide) (fun _ => ?_) (fun c9 => absurd (Int32.le_refl _) c9)
          refine lv_iconst (v := 0) hx hb gX11_isBarred_5.2.2.2.2.1 (by decide) ?_
          refine toQ hQ0 ?_
          exact RI (v := 0) hC hP hD hS [0, 8, 9, 1, 10, 11, 12, 13, 14, 15, 16, 17, 18, 19, 20, 2, 3, 4, 5, 6, 7] (r113236, rc13237, rh13238, gfc3239) rfl rfl (by decide) (Or.inr (rfl)) (by decide +kernel) gX11_isBarred_5.2.2.2.2.2
        | succ nP ihP =>
          intro kP H locs ls hkP hPD hS hl
          refine Kan2 hPD (fun hP hD => ?_)
          refine lv_iload hx hb gX11_isBarred_3.2.2.2.1 (lv_at0 hl) ?_
          refine lv_aload_n hx hb gX11_isBarred_3.2.2.2.2.1 rfl (lv_at3 hl) ?_
          refine gf_X11_15 hC rfl hK hP 0 rfl rfl gX11_isBarred_3.2.2.2.2.2.1 ?_
          refine gf_X11_144 hC rfl hK hP 10 rfl rfl gX11_isBarred_3.2.2.2.2.2.2.1 ?_
          refine pV hC hK hl hP hD (c_T_count l G bpapers 12 6 bpapersc kbpapers) si_X11_174 [15] sm_15 fm_15 nd_15 rfl rfl rfl rfl rfl (Nat.le_of_ble_eq_true rfl) rm_7_1_1 ⟨by first | exact Nat.le_of_ble_eq_true rfl | exact Nat.zero_le _, by first | exact Nat.le_of_ble_eq_true rfl | exact Nat.zero_le _⟩ gX11_isBarred_3.2.2.2.2.2.2.2.1 (Keqr ?_)
          refine lv_icmp_ge (tgt := 114) hx hb gX11_isBarred_3.2.2.2.2.2.2.2.2.1 (by decide) (fun c9 => absurd c9 (nI_ge (a := kP) (b := kbpapers) (by omega) (by omega))) (fun _ => ?_)
          refine lv_iload_n hx hb gX11_isBarred_3.2.2.2.2.2.2.2.2.2 rfl (lv_at6 hl) ?_
          refine lv_iload hx hb gX11_isBarred_4.1 (lv_at0 hl) ?_
          refine pS hC hK hl (c_hasBit l G x3 (nI kP)) si_X11_150 rfl rfl (Nat.le_of_ble_eq_true rfl) rm_7_1_2 ⟨by first | exact Nat.le_of_ble_eq_true rfl | exact Nat.zero_le _, by first | exact Nat.le_of_ble_eq_true rfl | exact Nat.zero_le _⟩ gX11_isBarred_4.2.1 (Kors (Keqa fun a3251 => ?_) (Keqa fun a3251 => ?_))
          · refine lv_if_eq (tgt := 108) hx hb gX11_isBarred_4.2.2.1 (by decide) (fun c9 => absurd c9 (by decide)) (fun _ => ?_)
            refine lv_aload_n hx hb gX11_isBarred_4.2.2.2.1 rfl (lv_at3 hl) ?_
            refine gf_X11_15 hC rfl hK hP 0 rfl rfl gX11_isBarred_4.2.2.2.2.1 ?_
            refine lv_iload hx hb gX11_isBarred_4.2.2.2.2.2.1 (lv_at2 hl) ?_
            refine lv_iload hx hb gX11_isBarred_4.2.2.2.2.2.2.1 (lv_at0 hl) ?_
            refine lv_iload hx hb gX11_isBarred_4.2.2.2.2.2.2.2.1 (lv_at1 hl) ?_
            refine pV hC hK hl hP hD (c_isWarned l G bb r3232 (nI kP) (td - r3245) bpersons bpapers bstamps bversions blines bsteps bsayings bfindings bwarnings bquestions td vd vl gp bwarningsc kbwarnings fbwarnings (hkbwarnings)) si_X11_376 [10, 6, 7] sm_10_6_7 fm_10_6_7 nd_10_6_7 rfl rfl rfl rfl rfl (Nat.le_of_ble_eq_true rfl) rm_7_3_5 ⟨by first | exact Nat.le_of_ble_eq_true rfl | exact Nat.zero_le _, by first | exact Nat.le_of_ble_eq_true rfl | exact Nat.zero_le _⟩ gX11_isBarred_4.2.2.2.2.2.2.2.2.1 (Kors (Keqr ?_) (Keqr ?_))
            · refine lv_if_ne (tgt := 108) hx hb gX11_isBarred_4.2.2.2.2.2.2.2.2.2 (by decide) (fun _ => ?_) (fun c9 => absurd c9 (by decide))
              refine lv_iinc (v := nI (kP + 1)) (lv' := [(6, .int (nI (kP + 1))), (5, .int (td - r3245)), (4, .int r3232), (0, .ref h0), (1, .int x1), (2, .int x2), (3, .int x3)]) hx hb gX11_isBarred_5.2.2.1 hl (k := 0) rfl (nI_1 _) (by decide) rfl (fun ls hl => ?_)
              refine lv_goto (tgt := 66) hx hb gX11_isBarred_5.2.2.2.1 (by decide) ?_
              exact ihP (kP + 1) _ _ _ (by omega) (And.intro hP hD) hS (lv_sub hl [0, 1, 2, 3, 4, 5, 6] rfl)
            · refine lv_if_ne (tgt := 108) hx hb gX11_isBarred_4.2.2.2.2.2.2.2.2.2 (by decide) (fun c9 => absurd (by decide) c9) (fun _ => ?_)
              refine lv_iconst (v := 1) hx hb gX11_isBarred_5.1 (by decide) ?_
              refine toQ hQ0 ?_
              exact RI (v := 1) hC hP hD hS [0, 8, 9, 1, 10, 11, 12, 13, 14, 15, 16, 17, 18, 19, 20, 2, 3, 4, 5, 6, 7] (r113236, rc13237, rh13238, gfc3239) rfl rfl (by decide) (Or.inl (rfl)) (by decide +kernel) gX11_isBarred_5.2.1
          · refine lv_if_eq (tgt := 108) hx hb gX11_isBarred_4.2.2.1 (by decide) (fun _ => ?_) (fun c9 => absurd (by decide) c9)
            refine lv_iinc (v := nI (kP + 1)) (lv' := [(6, .int (nI (kP + 1))), (5, .int (td - r3245)), (4, .int r3232), (0, .ref h0), (1, .int x1), (2, .int x2), (3, .int x3)]) hx hb gX11_isBarred_5.2.2.1 hl (k := 0) rfl (nI_1 _) (by decide) rfl (fun ls hl => ?_)
            refine lv_goto (tgt := 66) hx hb gX11_isBarred_5.2.2.2.1 (by decide) ?_
            exact ihP (kP + 1) _ _ _ (by omega) (And.intro hP hD) hS (lv_sub hl [0, 1, 2, 3, 4, 5, 6] rfl)
      exact keyP kbpapers 0 _ _ _ (by omega) (And.intro hP hD) hS (lv_sub hl [0, 1, 2, 3, 4, 5, 6] rfl)
    · refine eqi (x1 := vd) hE9 ?_
      refine lv_aload_n hx hb gX11_isBarred_2.2.2.2.2.2.2.1 rfl (lv_at1 hl) ?_
      refine gf_X11_44 hC rfl hK hP 0 rfl rfl gX11_isBarred_2.2.2.2.2.2.2.2.1 ?_
      refine pV hC hK hl hP hD (c_warnDays l G ru9 bb sg fc sh r113236 rc13237 rh13238 bpersons bpapers bstamps bversions blines bsteps bsayings bfindings bwarnings bquestions td vd vl gp blinesc kblines fblines (hkblines)) si_X11_373 [8, 10, 17, 18] sm_8_10_17_18 fm_8_10_17_18 nd_8_10_17_18 rfl rfl rfl rfl rfl (Nat.le_of_ble_eq_true rfl) rm_7_4_3 ⟨by first | exact Nat.le_of_ble_eq_true rfl | exact Nat.zero_le _, by first | exact Nat.le_of_ble_eq_true rfl | exact Nat.zero_le _⟩ gX11_isBarred_2.2.2.2.2.2.2.2.2.1 (fun r3254 hr3254 => ?_)
      refine lv_isub hx hb gX11_isBarred_2.2.2.2.2.2.2.2.2.2 ?_
      refine lv_istore (lv' := [(5, .int (vd - r3254)), (4, .int r3232), (0, .ref h0), (1, .int x1), (2, .int x2), (3, .int x3)]) hx hb gX11_isBarred_3.1 hl (by decide) rfl (fun ls hl => ?_)
      refine lv_iconst (v := 0) hx hb gX11_isBarred_3.2.1 (by decide) ?_
      refine lv_istore (lv' := [(6, .int 0), (5, .int (vd - r3254)), (4, .int r3232), (0, .ref h0), (1, .int x1), (2, .int x2), (3, .int x3)]) hx hb gX11_isBarred_3.2.2.1 hl (by decide) rfl (fun ls hl => ?_)
      have keyP : ∀ (nP kP : Nat) (H : Heap) (locs : List Loc) (ls : Array Slot), kP + nP = kbpapers → va_PD G A [(h0, oX11 bb kk ikp sg do9 ru9 ta9 tp9 ro9 ho9 de9), (sh, iA G 8 fsh), (bfindings, oX8 12 4 bfindingsc (nI kbfindings)), (bfindingsc, iA G 48 fbfindings), (bsayings, oX8 16 8 bsayingsc (nI kbsayings)), (bsayingsc, iA G 128 fbsayings), (bwarnings, oX8 16 3 bwarningsc (nI kbwarnings)), (bwarningsc, iA G 48 fbwarnings), (ru9, oX6 bb sg fc sh r113236 rc13237 rh13238), (fc, iA G 5 gfc3239), (bb, oX0 bpersons bpapers bstamps bversions blines bsteps bsayings bfindings bwarnings bquestions td vd vl gp), (bversions, oX8 8 3 bversionsc (nI kbversions)), (bversionsc, iA G 24 fbversions), (bpersons, oX8 10 2 bpersonsc (nI kbpersons)), (bpersonsc, iA G 20 fbpersons), (bpapers, oX8 12 6 bpapersc (nI kbpapers)), (bpapersc, iA G 72 fbpapers), (blines, oX8 72 7 blinesc (nI kblines)), (blinesc, iA G 504 fblines), (bsteps, oX8 960 1 bstepsc (nI kbsteps)), (bstepsc, iA G 960 fbsteps)] H → va_S A s.heap H locs → lv_has ls 7 [(6, .int (nI kP)), (5, .int (vd - r3254)), (4, .int r3232), (0, .ref h0), (1, .int x1), (2, .int x2), (3, .int x3)] → W p l e (RM 7 0 0) s m ([.ref h0, .int x1, .int x2, .int x3] : List Value).toArray below meth c H locs 0 0 Q0 (F0 m 66 ls []) := by
        intro nP
        induction nP with
        | zero =>
          intro kP H locs ls hkP hPD hS hl
          refine Kan2 hPD (fun hP hD => ?_)
          obtain rfl : kbpapers = kP := by omega
          have hl : lv_has ls 7 [(6, .int (nI kbpapers)), (5, .int (vd - r3254)), (4, .int r3232), (0, .ref h0), (1, .int x1), (2, .int x2), (3, .int x3)] := hl
          refine lv_iload hx hb gX11_isBarred_3.2.2.2.1 (lv_at0 hl) ?_
          refine lv_aload_n hx hb gX11_isBarred_3.2.2.2.2.1 rfl (lv_at3 hl) ?_
          refine gf_X11_15 hC rfl hK hP 0 rfl rfl gX11_isBarred_3.2.2.2.2.2.1 ?_
          refine gf_X11_144 hC rfl hK hP 10 rfl rfl gX11_isBarred_3.2.2.2.2.2.2.1 ?_
          refine pV hC hK hl hP hD (c_T_count l G bpapers 12 6 bpapersc kbpapers) si_X11_174 [15] sm_15 fm_15 nd_15 rfl rfl rfl rfl rfl (Nat.le_of_ble_eq_true rfl) rm_7_1_1 ⟨by first | exact Nat.le_of_ble_eq_true rfl | exact Nat.zero_le _, by first | exact Nat.le_of_ble_eq_true rfl | exact Nat.zero_le _⟩ gX11_isBarred_3.2.2.2.2.2.2.2.1 (Keqr ?_)
          refine lv_icmp_ge (tgt := 114) hx hb gX11_isBarred_3.2.2.2.2.2.2.2.2.1 (by decide) (fun _ => ?_) (fun c9 => absurd (Int32.le_refl _) c9)
          refine lv_iconst (v := 0) hx hb gX11_isBarred_5.2.2.2.2.1 (by decide) ?_
          refine toQ hQ0 ?_
          exact RI (v := 0) hC hP hD hS [0, 8, 9, 1, 10, 11, 12, 13, 14, 15, 16, 17, 18, 19, 20, 2, 3, 4, 5, 6, 7] (r113236, rc13237, rh13238, gfc3239) rfl rfl (by decide) (Or.inr (rfl)) (by decide +kernel) gX11_isBarred_5.2.2.2.2.2
        | succ nP ihP =>
          intro kP H locs ls hkP hPD hS hl
          refine Kan2 hPD (fun hP hD => ?_)
          refine lv_iload hx hb gX11_isBarred_3.2.2.2.1 (lv_at0 hl) ?_
          refine lv_aload_n hx hb gX11_isBarred_3.2.2.2.2.1 rfl (lv_at3 hl) ?_
          refine gf_X11_15 hC rfl hK hP 0 rfl rfl gX11_isBarred_3.2.2.2.2.2.1 ?_
          refine gf_X11_144 hC rfl hK hP 10 rfl rfl gX11_isBarred_3.2.2.2.2.2.2.1 ?_
          refine pV hC hK hl hP hD (c_T_count l G bpapers 12 6 bpapersc kbpapers) si_X11_174 [15] sm_15 fm_15 nd_15 rfl rfl rfl rfl rfl (Nat.le_of_ble_eq_true rfl) rm_7_1_1 ⟨by first | exact Nat.le_of_ble_eq_true rfl | exact Nat.zero_le _, by first | exact Nat.le_of_ble_eq_true rfl | exact Nat.zero_le _⟩ gX11_isBarred_3.2.2.2.2.2.2.2.1 (Keqr ?_)
          refine lv_icmp_ge (tgt := 114) hx hb gX11_isBarred_3.2.2.2.2.2.2.2.2.1 (by decide) (fun c9 => absurd c9 (nI_ge (a := kP) (b := kbpapers) (by omega) (by omega))) (fun _ => ?_)
          refine lv_iload_n hx hb gX11_isBarred_3.2.2.2.2.2.2.2.2.2 rfl (lv_at6 hl) ?_
          refine lv_iload hx hb gX11_isBarred_4.1 (lv_at0 hl) ?_
          refine pS hC hK hl (c_hasBit l G x3 (nI kP)) si_X11_150 rfl rfl (Nat.le_of_ble_eq_true rfl) rm_7_1_2 ⟨by first | exact Nat.le_of_ble_eq_true rfl | exact Nat.zero_le _, by first | exact Nat.le_of_ble_eq_true rfl | exact Nat.zero_le _⟩ gX11_isBarred_4.2.1 (Kors (Keqa fun a3260 => ?_) (Keqa fun a3260 => ?_))
          · refine lv_if_eq (tgt := 108) hx hb gX11_isBarred_4.2.2.1 (by decide) (fun c9 => absurd c9 (by decide)) (fun _ => ?_)
            refine lv_aload_n hx hb gX11_isBarred_4.2.2.2.1 rfl (lv_at3 hl) ?_
            refine gf_X11_15 hC rfl hK hP 0 rfl rfl gX11_isBarred_4.2.2.2.2.1 ?_
            refine lv_iload hx hb gX11_isBarred_4.2.2.2.2.2.1 (lv_at2 hl) ?_
            refine lv_iload hx hb gX11_isBarred_4.2.2.2.2.2.2.1 (lv_at0 hl) ?_
            refine lv_iload hx hb gX11_isBarred_4.2.2.2.2.2.2.2.1 (lv_at1 hl) ?_
            refine pV hC hK hl hP hD (c_isWarned l G bb r3232 (nI kP) (vd - r3254) bpersons bpapers bstamps bversions blines bsteps bsayings bfindings bwarnings bquestions td vd vl gp bwarningsc kbwarnings fbwarnings (hkbwarnings)) si_X11_376 [10, 6, 7] sm_10_6_7 fm_10_6_7 nd_10_6_7 rfl rfl rfl rfl rfl (Nat.le_of_ble_eq_true rfl) rm_7_3_5 ⟨by first | exact Nat.le_of_ble_eq_true rfl | exact Nat.zero_le _, by first | exact Nat.le_of_ble_eq_true rfl | exact Nat.zero_le _⟩ gX11_isBarred_4.2.2.2.2.2.2.2.2.1 (Kors (Keqr ?_) (Keqr ?_))
            · refine lv_if_ne (tgt := 108) hx hb gX11_isBarred_4.2.2.2.2.2.2.2.2.2 (by decide) (fun _ => ?_) (fun c9 => absurd c9 (by decide))
              refine lv_iinc (v := nI (kP + 1)) (lv' := [(6, .int (nI (kP + 1))), (5, .int (vd - r3254)), (4, .int r3232), (0, .ref h0), (1, .int x1), (2, .int x2), (3, .int x3)]) hx hb gX11_isBarred_5.2.2.1 hl (k := 0) rfl (nI_1 _) (by decide) rfl (fun ls hl => ?_)
              refine lv_goto (tgt := 66) hx hb gX11_isBarred_5.2.2.2.1 (by decide) ?_
              exact ihP (kP + 1) _ _ _ (by omega) (And.intro hP hD) hS (lv_sub hl [0, 1, 2, 3, 4, 5, 6] rfl)
            · refine lv_if_ne (tgt := 108) hx hb gX11_isBarred_4.2.2.2.2.2.2.2.2.2 (by decide) (fun c9 => absurd (by decide) c9) (fun _ => ?_)
              refine lv_iconst (v := 1) hx hb gX11_isBarred_5.1 (by decide) ?_
              refine toQ hQ0 ?_
              exact RI (v := 1) hC hP hD hS [0, 8, 9, 1, 10, 11, 12, 13, 14, 15, 16, 17, 18, 19, 20, 2, 3, 4, 5, 6, 7] (r113236, rc13237, rh13238, gfc3239) rfl rfl (by decide) (Or.inl (rfl)) (by decide +kernel) gX11_isBarred_5.2.1
          · refine lv_if_eq (tgt := 108) hx hb gX11_isBarred_4.2.2.1 (by decide) (fun _ => ?_) (fun c9 => absurd (by decide) c9)
            refine lv_iinc (v := nI (kP + 1)) (lv' := [(6, .int (nI (kP + 1))), (5, .int (vd - r3254)), (4, .int r3232), (0, .ref h0), (1, .int x1), (2, .int x2), (3, .int x3)]) hx hb gX11_isBarred_5.2.2.1 hl (k := 0) rfl (nI_1 _) (by decide) rfl (fun ls hl => ?_)
            refine lv_goto (tgt := 66) hx hb gX11_isBarred_5.2.2.2.1 (by decide) ?_
            exact ihP (kP + 1) _ _ _ (by omega) (And.intro hP hD) hS (lv_sub hl [0, 1, 2, 3, 4, 5, 6] rfl)
      exact keyP kbpapers 0 _ _ _ (by omega) (And.intro hP hD) hS (lv_sub hl [0, 1, 2, 3, 4, 5, 6] rfl)
  · refine lv_iconst (v := 1) hx hb gX11_isBarred_2.2.1 (by decide) ?_
    refine toQ hQ0 ?_
    exact RI (v := 1) hC hP hD hS [0, 8, 9, 1, 10, 11, 12, 13, 14, 15, 16, 17, 18, 19, 20, 2, 3, 4, 5, 6, 7] (r113236, rc13237, rh13238, gfc3239) rfl rfl (by decide) (Or.inl (rfl)) (by decide +kernel) gX11_isBarred_2.2.2.1
def K_p_findingOf (l : Launch) (G : GG) (h0 : Nat) (x1 : Int32) (x2 : Int32) (bb : Nat) (kk : Nat) (ikp : Int32) (sg : Nat) (do9 : Nat) (ru9 : Nat) (ta9 : Nat) (tp9 : Nat) (ro9 : Nat) (ho9 : Nat) (de9 : Nat) (clk : Nat) (fi : Nat) (la : Nat) (ml : Nat) (mm : Nat) (sl : Nat) (sm : Nat) (cl : Int32) (clm : Nat) (fclm : Nat → Int32) (ffi : Nat → Int32) (fla : Nat → Int32) (fml : Nat → Int32) (fmm : Nat → Int32) (fsl : Nat → Int32) (fsm : Nat → Int32) (fc : Nat) (sh : Nat) (r1 : Int32) (rc : Int32) (rh : Int32) (ffc : Nat → Int32) (fsh : Nat → Int32) (bpersons : Nat) (bpapers : Nat) (bstamps : Nat) (bversions : Nat) (blines : Nat) (bsteps : Nat) (bsayings : Nat) (bfindings : Nat) (bwarnings : Nat) (bquestions : Nat) (td : Int32) (vd : Int32) (vl : Int32) (gp : Int32) (bversionsc : Nat) (kbversions : Nat) (fbversions : Nat → Int32) (bpersonsc : Nat) (kbpersons : Nat) (fbpersons : Nat → Int32) (bpapersc : Nat) (kbpapers : Nat) (fbpapers : Nat → Int32) (blinesc : Nat) (kblines : Nat) (fblines : Nat → Int32) (bstepsc : Nat) (kbsteps : Nat) (fbsteps : Nat → Int32) (bstampsc : Nat) (kbstamps : Nat) (fbstamps : Nat → Int32) (bfindingsc : Nat) (kbfindings : Nat) (fbfindings : Nat → Int32) (bsayingsc : Nat) (kbsayings : Nat) (fbsayings : Nat → Int32) (bwarningsc : Nat) (kbwarnings : Nat) (fbwarnings : Nat → Int32) : Prop := MI l G yX11_findingOf cX11_findingOf 4 (some .int) 9 0 0 [.ref h0, .int x1, .int x2] [(h0, oX11 bb kk ikp sg do9 ru9 ta9 tp9 ro9 ho9 de9), (sg, oX7 bb clk fi la ml mm sl sm cl), (clk, oX1 clm), (clm, iA G 36 fclm), (fi, iA G 12 ffi), (la, iA G 12 fla), (ml, iA G 12 fml), (mm, iA G 12 fmm), (sl, iA G 12 fsl), (sm, iA G 12 fsm), (ru9, oX6 bb sg fc sh r1 rc rh), (fc, iA G 5 ffc), (sh, iA G 8 fsh), (bb, oX0 bpersons bpapers bstamps bversions blines bsteps bsayings bfindings bwarnings bquestions td vd vl gp), (bversions, oX8 8 3 bversionsc (nI kbversions)), (bversionsc, iA G 24 fbversions), (bpersons, oX8 10 2 bpersonsc (nI kbpersons)), (bpersonsc, iA G 20 fbpersons), (bpapers, oX8 12 6 bpapersc (nI kbpapers)), (bpapersc, iA G 72 fbpapers), (blines, oX8 72 7 blinesc (nI kblines)), (blinesc, iA G 504 fblines), (bsteps, oX8 960 1 bstepsc (nI kbsteps)), (bstepsc, iA G 960 fbsteps), (bstamps, oX8 24 3 bstampsc (nI kbstamps)), (bstampsc, iA G 72 fbstamps), (bfindings, oX8 12 4 bfindingsc (nI kbfindings)), (bfindingsc, iA G 48 fbfindings), (bsayings, oX8 16 8 bsayingsc (nI kbsayings)), (bsayingsc, iA G 128 fbsayings), (bwarnings, oX8 16 3 bwarningsc (nI kbwarnings)), (bwarningsc, iA G 48 fbwarnings)] (fun (r : Int32) (u : Int32 × (Nat → Int32) × (Nat → Int32) × (Nat → Int32) × (Nat → Int32) × (Nat → Int32) × (Nat → Int32) × (Nat → Int32) × Int32 × Int32 × Int32 × (Nat → Int32) × (Nat → Int32)) => (True) ∧ (u.1 = 0 ∨ u.1 = 1)) (fun u : Int32 × (Nat → Int32) × (Nat → Int32) × (Nat → Int32) × (Nat → Int32) × (Nat → Int32) × (Nat → Int32) × (Nat → Int32) × Int32 × Int32 × Int32 × (Nat → Int32) × (Nat → Int32) => [(h0, oX11 bb kk ikp sg do9 ru9 ta9 tp9 ro9 ho9 de9), (sg, oX7 bb clk fi la ml mm sl sm u.1), (clk, oX1 clm), (clm, iA G 36 u.2.1), (fi, iA G 12 u.2.2.1), (la, iA G 12 u.2.2.2.1), (ml, iA G 12 u.2.2.2.2.1), (mm, iA G 12 u.2.2.2.2.2.1), (sl, iA G 12 u.2.2.2.2.2.2.1), (sm, iA G 12 u.2.2.2.2.2.2.2.1), (ru9, oX6 bb sg fc sh u.2.2.2.2.2.2.2.2.1 u.2.2.2.2.2.2.2.2.2.1 u.2.2.2.2.2.2.2.2.2.2.1), (fc, iA G 5 u.2.2.2.2.2.2.2.2.2.2.2.1), (sh, iA G 8 u.2.2.2.2.2.2.2.2.2.2.2.2), (bb, oX0 bpersons bpapers bstamps bversions blines bsteps bsayings bfindings bwarnings bquestions td vd vl gp), (bversions, oX8 8 3 bversionsc (nI kbversions)), (bversionsc, iA G 24 fbversions), (bpersons, oX8 10 2 bpersonsc (nI kbpersons)), (bpersonsc, iA G 20 fbpersons), (bpapers, oX8 12 6 bpapersc (nI kbpapers)), (bpapersc, iA G 72 fbpapers), (blines, oX8 72 7 blinesc (nI kblines)), (blinesc, iA G 504 fblines), (bsteps, oX8 960 1 bstepsc (nI kbsteps)), (bstepsc, iA G 960 fbsteps), (bstamps, oX8 24 3 bstampsc (nI kbstamps)), (bstampsc, iA G 72 fbstamps), (bfindings, oX8 12 4 bfindingsc (nI kbfindings)), (bfindingsc, iA G 48 fbfindings), (bsayings, oX8 16 8 bsayingsc (nI kbsayings)), (bsayingsc, iA G 128 fbsayings), (bwarnings, oX8 16 3 bwarningsc (nI kbwarnings)), (bwarningsc, iA G 48 fbwarnings)])
set_option maxHeartbeats 4000000 in
set_option maxRecDepth 100000 in
theorem p_findingOf (l : Launch) (G : GG) (h0 : Nat) (x1 : Int32) (x2 : Int32) (bb : Nat) (kk : Nat) (ikp : Int32) (sg : Nat) (do9 : Nat) (ru9 : Nat) (ta9 : Nat) (tp9 : Nat) (ro9 : Nat) (ho9 : Nat) (de9 : Nat) (clk : Nat) (fi : Nat) (la : Nat) (ml : Nat) (mm : Nat) (sl : Nat) (sm : Nat) (cl : Int32) (clm : Nat) (fclm : Nat → Int32) (ffi : Nat → Int32) (fla : Nat → Int32) (fml : Nat → Int32) (fmm : Nat → Int32) (fsl : Nat → Int32) (fsm : Nat → Int32) (fc : Nat) (sh : Nat) (r1 : Int32) (rc : Int32) (rh : Int32) (ffc : Nat → Int32) (fsh : Nat → Int32) (bpersons : Nat) (bpapers : Nat) (bstamps : Nat) (bversions : Nat) (blines : Nat) (bsteps : Nat) (bsayings : Nat) (bfindings : Nat) (bwarnings : Nat) (bquestions : Nat) (td : Int32) (vd : Int32) (vl : Int32) (gp : Int32) (bversionsc : Nat) (kbversions : Nat) (fbversions : Nat → Int32) (bpersonsc : Nat) (kbpersons : Nat) (fbpersons : Nat → Int32) (bpapersc : Nat) (kbpapers : Nat) (fbpapers : Nat → Int32) (blinesc : Nat) (kblines : Nat) (fblines : Nat → Int32) (bstepsc : Nat) (kbsteps : Nat) (fbsteps : Nat → Int32) (bstampsc : Nat) (kbstamps : Nat) (fbstamps : Nat → Int32) (bfindingsc : Nat) (kbfindings : Nat) (fbfindings : Nat → Int32) (bsayingsc : Nat) (kbsayings : Nat) (fbsayings : Nat → Int32) (bwarningsc : Nat) (kbwarnings : Nat) (fbwarnings : Nat → Int32) (hkbversions : kbversions ≤ 8) (hkbpersons : kbpersons ≤ 10) (hkbpapers : kbpapers ≤ 12) (hkblines : kblines ≤ 72) (hkbsteps : kbsteps ≤ 960) (hkbstamps : kbstamps ≤ 24) (hkbfindings : kbfindings ≤ 12) (hkbsayings : kbsayings ≤ 16) (hkbwarnings : kbwarnings ≤ 16) (hcl : cl = 0 ∨ cl = 1) : K_p_findingOf l G h0 x1 x2 bb kk ikp sg do9 ru9 ta9 tp9 ro9 ho9 de9 clk fi la ml mm sl sm cl clm fclm ffi fla fml fmm fsl fsm fc sh r1 rc rh ffc fsh bpersons bpapers bstamps bversions blines bsteps bsayings bfindings bwarnings bquestions td vd vl gp bversionsc kbversions fbversions bpersonsc kbpersons fbpersons bpapersc kbpapers fbpapers blinesc kblines fblines bstepsc kbsteps fbsteps bstampsc kbstamps fbstamps bfindingsc kbfindings fbfindings bsayingsc kbsayings fbsayings bwarningsc kbwarnings fbwarnings := by
  refine MI.start (by decide +kernel) (Nat.le_of_ble_eq_true rfl) ?_
  intro p e s m below meth c A ls hC hK hP hD hS hA hl
  refine absQ (fun Q0 hQ0 => ?_)
  have hl : lv_has ls 4 [(0, .ref h0), (1, .int x1), (2, .int x2)] := hl
  refine Kan8 hC (fun hx hb hr hml hB hown hlocks hnm => ?_)
  refine lv_aload_n hx hb gX11_findingOf_0.1 rfl (lv_at0 hl) ?_
  refine gf_X11_15 hC rfl hK hP 0 rfl rfl gX11_findingOf_0.2.1 ?_
  refine gf_X11_271 hC rfl hK hP 13 rfl rfl gX11_findingOf_0.2.2.1 ?_
  refine lv_iload_n hx hb gX11_findingOf_0.2.2.2.1 rfl (lv_at1 hl) ?_
  refine pV hC hK hl hP hD (c_T_has l G bfindings x1 12 4 bfindingsc kbfindings) si_X11_124 [26] sm_26 fm_26 nd_26 rfl rfl rfl rfl rfl (Nat.le_of_ble_eq_true rfl) rm_9_1_2 ⟨by first | exact Nat.le_of_ble_eq_true rfl | exact Nat.zero_le _, by first | exact Nat.le_of_ble_eq_true rfl | exact Nat.zero_le _⟩ gX11_findingOf_0.2.2.2.2.1 (Kors (Keqa fun a3264 => ?_) (Keqa fun a3264 => ?_))
  · refine lv_if_ne (tgt := 16) hx hb gX11_findingOf_0.2.2.2.2.2.1 (by decide) (fun _ => ?_) (fun c9 => absurd c9 (by decide))
    refine lv_aload_n hx hb gX11_findingOf_0.2.2.2.2.2.2.2.2.1 rfl (lv_at0 hl) ?_
    refine gf_X11_15 hC rfl hK hP 0 rfl rfl gX11_findingOf_0.2.2.2.2.2.2.2.2.2 ?_
    refine pV hC hK hl hP hD (c_inView l G bb bpersons bpapers bstamps bversions blines bsteps bsayings bfindings bwarnings bquestions td vd vl gp bpapersc kbpapers fbpapers (hkbpapers)) si_X11_97 [13, 18, 19] sm_13_18_19 fm_13_18_19 nd_13_18_19 rfl rfl rfl rfl rfl (Nat.le_of_ble_eq_true rfl) rm_9_3_6 ⟨by first | exact Nat.le_of_ble_eq_true rfl | exact Nat.zero_le _, by first | exact Nat.le_of_ble_eq_true rfl | exact Nat.zero_le _⟩ gX11_findingOf_1.1 (fun r3265 hr3265 => ?_)
    refine lv_istore_n (lv' := [(3, .int r3265), (0, .ref h0), (1, .int x1), (2, .int x2)]) hx hb gX11_findingOf_1.2.1 rfl hl (by decide) rfl (fun ls hl => ?_)
    refine lv_iload_n hx hb gX11_findingOf_1.2.2.1 rfl (lv_at3 hl) ?_
    by_cases c_25_3266 : x2 = 0
    · refine lv_tableIn (tgt := 68) hx hb gX11_findingOf_1.2.2.2.1 (by rw [c_25_3266]; decide) (by rw [c_25_3266]; decide) (by rw [c_25_3266]; rfl) (by decide) ?_
      refine lv_aload_n hx hb gX11_findingOf_1.2.2.2.2.1 rfl (lv_at1 hl) ?_
      refine gf_X11_15 hC rfl hK hP 0 rfl rfl gX11_findingOf_1.2.2.2.2.2.1 ?_
      refine gf_X11_271 hC rfl hK hP 13 rfl rfl gX11_findingOf_1.2.2.2.2.2.2.1 ?_
      refine lv_iload_n hx hb gX11_findingOf_1.2.2.2.2.2.2.2.1 rfl (lv_at2 hl) ?_
      refine lv_iconst (v := 0) hx hb gX11_findingOf_1.2.2.2.2.2.2.2.2.1 (by decide) ?_
      refine pV hC hK hl hP hD (c_T_at l G bfindings x1 0 12 4 bfindingsc kbfindings fbfindings (hkbfindings) (by omega) (by omega)) si_X11_128 [26, 27] sm_26_27 fm_26_27 nd_26_27 rfl rfl rfl rfl rfl (Nat.le_of_ble_eq_true rfl) rm_9_1_3 ⟨by first | exact Nat.le_of_ble_eq_true rfl | exact Nat.zero_le _, by first | exact Nat.le_of_ble_eq_true rfl | exact Nat.zero_le _⟩ gX11_findingOf_1.2.2.2.2.2.2.2.2.2 (fun r3267 hr3267 => ?_)
      refine toQ hQ0 ?_
      exact RI (v := r3267) hC hP hD hS [0, 1, 2, 3, 4, 5, 6, 7, 8, 9, 10, 11, 12, 13, 14, 15, 16, 17, 18, 19, 20, 21, 22, 23, 24, 25, 26, 27, 28, 29, 30, 31] (cl, fclm, ffi, fla, fml, fmm, fsl, fsm, r1, rc, rh, ffc, fsh) rfl rfl (by decide) (⟨trivial, hcl⟩) rfl gX11_findingOf_2.1
    by_cases c_25_3269 : x2 = 1
    · refine lv_tableIn (tgt := 81) hx hb gX11_findingOf_1.2.2.2.1 (by rw [c_25_3269]; decide) (by rw [c_25_3269]; decide) (by rw [c_25_3269]; rfl) (by decide) ?_
      refine lv_aload_n hx hb gX11_findingOf_2.2.1 rfl (lv_at1 hl) ?_
      refine gf_X11_15 hC rfl hK hP 0 rfl rfl gX11_findingOf_2.2.2.1 ?_
      refine gf_X11_271 hC rfl hK hP 13 rfl rfl gX11_findingOf_2.2.2.2.1 ?_
      refine lv_iload_n hx hb gX11_findingOf_2.2.2.2.2.1 rfl (lv_at2 hl) ?_
      refine lv_iconst (v := 1) hx hb gX11_findingOf_2.2.2.2.2.2.1 (by decide) ?_
      refine pV hC hK hl hP hD (c_T_at l G bfindings x1 1 12 4 bfindingsc kbfindings fbfindings (hkbfindings) (by omega) (by omega)) si_X11_128 [26, 27] sm_26_27 fm_26_27 nd_26_27 rfl rfl rfl rfl rfl (Nat.le_of_ble_eq_true rfl) rm_9_1_3 ⟨by first | exact Nat.le_of_ble_eq_true rfl | exact Nat.zero_le _, by first | exact Nat.le_of_ble_eq_true rfl | exact Nat.zero_le _⟩ gX11_findingOf_2.2.2.2.2.2.2.1 (fun r3270 hr3270 => ?_)
      refine toQ hQ0 ?_
      exact RI (v := r3270) hC hP hD hS [0, 1, 2, 3, 4, 5, 6, 7, 8, 9, 10, 11, 12, 13, 14, 15, 16, 17, 18, 19, 20, 21, 22, 23, 24, 25, 26, 27, 28, 29, 30, 31] (cl, fclm, ffi, fla, fml, fmm, fsl, fsm, r1, rc, rh, ffc, fsh) rfl rfl (by decide) (⟨trivial, hcl⟩) rfl gX11_findingOf_2.2.2.2.2.2.2.2.1
    by_cases c_25_3272 : x2 = 2
    · refine lv_tableIn (tgt := 94) hx hb gX11_findingOf_1.2.2.2.1 (by rw [c_25_3272]; decide) (by rw [c_25_3272]; decide) (by rw [c_25_3272]; rfl) (by decide) ?_
      refine lv_aload_n hx hb gX11_findingOf_2.2.2.2.2.2.2.2.2.1 rfl (lv_at1 hl) ?_
      refine gf_X11_15 hC rfl hK hP 0 rfl rfl gX11_findingOf_2.2.2.2.2.2.2.2.2.2 ?_
      refine gf_X11_271 hC rfl hK hP 13 rfl rfl gX11_findingOf_3.1 ?_
      refine lv_iload_n hx hb gX11_findingOf_3.2.1 rfl (lv_at2 hl) ?_
      refine lv_iconst (v := 2) hx hb gX11_findingOf_3.2.2.1 (by decide) ?_
      refine pV hC hK hl hP hD (c_T_at l G bfindings x1 2 12 4 bfindingsc kbfindings fbfindings (hkbfindings) (by omega) (by omega)) si_X11_128 [26, 27] sm_26_27 fm_26_27 nd_26_27 rfl rfl rfl rfl rfl (Nat.le_of_ble_eq_true rfl) rm_9_1_3 ⟨by first | exact Nat.le_of_ble_eq_true rfl | exact Nat.zero_le _, by first | exact Nat.le_of_ble_eq_true rfl | exact Nat.zero_le _⟩ gX11_findingOf_3.2.2.2.1 (fun r3273 hr3273 => ?_)
      refine toQ hQ0 ?_
      exact RI (v := r3273) hC hP hD hS [0, 1, 2, 3, 4, 5, 6, 7, 8, 9, 10, 11, 12, 13, 14, 15, 16, 17, 18, 19, 20, 21, 22, 23, 24, 25, 26, 27, 28, 29, 30, 31] (cl, fclm, ffi, fla, fml, fmm, fsl, fsm, r1, rc, rh, ffc, fsh) rfl rfl (by decide) (⟨trivial, hcl⟩) rfl gX11_findingOf_3.2.2.2.2.1
    by_cases c_25_3275 : x2 = 3
    · refine lv_tableIn (tgt := 107) hx hb gX11_findingOf_1.2.2.2.1 (by rw [c_25_3275]; decide) (by rw [c_25_3275]; decide) (by rw [c_25_3275]; rfl) (by decide) ?_
      refine lv_aload_n hx hb gX11_findingOf_3.2.2.2.2.2.1 rfl (lv_at1 hl) ?_
      refine gf_X11_15 hC rfl hK hP 0 rfl rfl gX11_findingOf_3.2.2.2.2.2.2.1 ?_
      refine gf_X11_271 hC rfl hK hP 13 rfl rfl gX11_findingOf_3.2.2.2.2.2.2.2.1 ?_
      refine lv_iload_n hx hb gX11_findingOf_3.2.2.2.2.2.2.2.2.1 rfl (lv_at2 hl) ?_
      refine lv_iconst (v := 3) hx hb gX11_findingOf_3.2.2.2.2.2.2.2.2.2 (by decide) ?_
      refine pV hC hK hl hP hD (c_T_at l G bfindings x1 3 12 4 bfindingsc kbfindings fbfindings (hkbfindings) (by omega) (by omega)) si_X11_128 [26, 27] sm_26_27 fm_26_27 nd_26_27 rfl rfl rfl rfl rfl (Nat.le_of_ble_eq_true rfl) rm_9_1_3 ⟨by first | exact Nat.le_of_ble_eq_true rfl | exact Nat.zero_le _, by first | exact Nat.le_of_ble_eq_true rfl | exact Nat.zero_le _⟩ gX11_findingOf_4.1 (fun r3276 hr3276 => ?_)
      refine toQ hQ0 ?_
      exact RI (v := r3276) hC hP hD hS [0, 1, 2, 3, 4, 5, 6, 7, 8, 9, 10, 11, 12, 13, 14, 15, 16, 17, 18, 19, 20, 21, 22, 23, 24, 25, 26, 27, 28, 29, 30, 31] (cl, fclm, ffi, fla, fml, fmm, fsl, fsm, r1, rc, rh, ffc, fsh) rfl rfl (by decide) (⟨trivial, hcl⟩) rfl gX11_findingOf_4.2.1
    by_cases c_25_3278 : x2 = 4
    · refine lv_tableIn (tgt := 120) hx hb gX11_findingOf_1.2.2.2.1 (by rw [c_25_3278]; decide) (by rw [c_25_3278]; decide) (by rw [c_25_3278]; rfl) (by decide) ?_
      refine lv_aload_n hx hb gX11_findingOf_4.2.2.1 rfl (lv_at1 hl) ?_
      refine lv_iload_n hx hb gX11_findingOf_4.2.2.2.1 rfl (lv_at2 hl) ?_
      refine lv_iload_n hx hb gX11_findingOf_4.2.2.2.2.1 rfl (lv_at0 hl) ?_
      refine iV (wr := [(bsayings, oX8 16 8 bsayingsc (nI kbsayings)), (bsayingsc, iA G 128 fbsayings), (bwarnings, oX8 16 3 bwarningsc (nI kbwarnings)), (bwarningsc, iA G 48 fbwarnings)]) hC hK hl hP hD hS hA (c_stands l G h0 x1 r3265 bb kk ikp sg do9 ru9 ta9 tp9 ro9 ho9 de9 clk fi la ml mm sl sm cl clm fclm ffi fla fml fmm fsl fsm fc sh r1 rc rh ffc fsh bpersons bpapers bstamps bversions blines bsteps bsayings bfindings bwarnings bquestions td vd vl gp bversionsc kbversions fbversions bpersonsc kbpersons fbpersons bpapersc kbpapers fbpapers blinesc kblines fblines bstepsc kbsteps fbsteps bstampsc kbstamps fbstamps bfindingsc kbfindings fbfindings (hkbversions) (hkbpersons) (hkbpapers) (hkblines) (hkbsteps) (hkbstamps) (hkbfindings)) si_X11_274 [0, 1, 2, 3, 4, 5, 6, 7, 8, 9, 10, 11, 12, 13, 14, 15, 16, 17, 18, 19, 20, 21, 22, 23, 24, 25, 26, 27] [28, 29, 30, 31] sm_0_1_2_3_4_5_6_7_8_9_10_11_12_13_14_15_16_17_18_19_20_21_22_23_24_25_26_27 fm_0_1_2_3_4_5_6_7_8_9_10_11_12_13_14_15_16_17_18_19_20_21_22_23_24_25_26_27 nd_0_1_2_3_4_5_6_7_8_9_10_11_12_13_14_15_16_17_18_19_20_21_22_23_24_25_26_27 sm_28_29_30_31 nd_28_29_30_31 dj_0_1_2_3_4_5_6_7_8_9_10_11_12_13_14_15_16_17_18_19_20_21_22_23_24_25_26_27__28_29_30_31 rfl rfl rfl rfl rfl (Nat.le_of_ble_eq_true rfl) rm_9_7_6 ⟨Nat.le_of_ble_eq_true rfl, Nat.le_of_ble_eq_true rfl⟩ gX11_findingOf_4.2.2.2.2.2.1 (fun r3279 => Ktu13 fun cl13281 gclm3282 gfi3283 gla3284 gml3285 gmm3286 gsl3287 gsm3288 r113289 rc13290 rh13291 gfc3292 gsh3293 => ?_)
      intro H locs hr3279 hP hD hS
      try dsimp only at hr3279
      refine Kpdr (ws := [(bsayings, oX8 16 8 bsayingsc (nI kbsayings)), (bsayingsc, iA G 128 fbsayings), (bwarnings, oX8 16 3 bwarningsc (nI kbwarnings)), (bwarningsc, iA G 48 fbwarnings), (h0, oX11 bb kk ikp sg do9 ru9 ta9 tp9 ro9 ho9 de9), (sg, oX7 bb clk fi la ml mm sl sm cl13281), (clk, oX1 clm), (clm, iA G 36 gclm3282), (fi, iA G 12 gfi3283), (la, iA G 12 gla3284), (ml, iA G 12 gml3285), (mm, iA G 12 gmm3286), (sl, iA G 12 gsl3287), (sm, iA G 12 gsm3288), (ru9, oX6 bb sg fc sh r113289 rc13290 rh13291), (fc, iA G 5 gfc3292), (sh, iA G 8 gsh3293), (bb, oX0 bpersons bpapers bstamps bversions blines bsteps bsayings bfindings bwarnings bquestions td vd vl gp), (bversions, oX8 8 3 bversionsc (nI kbversions)), (bversionsc, iA G 24 fbversions), (bpersons, oX8 10 2 bpersonsc (nI kbpersons)), (bpersonsc, iA G 20 fbpersons), (bpapers, oX8 12 6 bpapersc (nI kbpapers)), (bpapersc, iA G 72 fbpapers), (blines, oX8 72 7 blinesc (nI kblines)), (blinesc, iA G 504 fblines), (bsteps, oX8 960 1 bstepsc (nI kbsteps)), (bstepsc, iA G 960 fbsteps), (bstamps, oX8 24 3 bstampsc (nI kbstamps)), (bstampsc, iA G 72 fbstamps), (bfindings, oX8 12 4 bfindingsc (nI kbfindings)), (bfindingsc, iA G 48 fbfindings)]) hP hD (fun hP hD => ?_)
      obtain ⟨hr3279, w3294⟩ := hr3279
      rcases hr3279 with rfl | rfl
      · refine lv_if_eq (tgt := 133) hx hb gX11_findingOf_4.2.2.2.2.2.2.1 (by decide) (fun c9 => absurd c9 (by decide)) (fun _ => ?_)
        refine lv_iconst (v := 1) hx hb gX11_findingOf_4.2.2.2.2.2.2.2.1 (by decide) ?_
        refine lv_goto (tgt := 134) hx hb gX11_findingOf_4.2.2.2.2.2.2.2.2.1 (by decide) ?_
        refine toQ hQ0 ?_
        exact RI (v := 1) hC hP hD hS [4, 5, 6, 7, 8, 9, 10, 11, 12, 13, 14, 15, 16, 17, 18, 19, 20, 21, 22, 23, 24, 25, 26, 27, 28, 29, 30, 31, 0, 1, 2, 3] (cl13281, gclm3282, gfi3283, gla3284, gml3285, gmm3286, gsl3287, gsm3288, r113289, rc13290, rh13291, gfc3292, gsh3293) rfl rfl (by decide) (⟨trivial, w3294⟩) rfl gX11_findingOf_5.1
      · refine lv_if_eq (tgt := 133) hx hb gX11_findingOf_4.2.2.2.2.2.2.1 (by decide) (fun _ => ?_) (fun c9 => absurd (by decide) c9)
        refine lv_iconst (v := 0) hx hb gX11_findingOf_4.2.2.2.2.2.2.2.2.2 (by decide) ?_
        refine toQ hQ0 ?_
        exact RI (v := 0) hC hP hD hS [4, 5, 6, 7, 8, 9, 10, 11, 12, 13, 14, 15, 16, 17, 18, 19, 20, 21, 22, 23, 24, 25, 26, 27, 28, 29, 30, 31, 0, 1, 2, 3] (cl13281, gclm3282, gfi3283, gla3284, gml3285, gmm3286, gsl3287, gsm3288, r113289, rc13290, rh13291, gfc3292, gsh3293) rfl rfl (by decide) (⟨trivial, w3294⟩) rfl gX11_findingOf_5.1
    by_cases c_25_3296 : x2 = 5
    · refine lv_tableIn (tgt := 135) hx hb gX11_findingOf_1.2.2.2.1 (by rw [c_25_3296]; decide) (by rw [c_25_3296]; decide) (by rw [c_25_3296]; rfl) (by decide) ?_
      refine lv_aload_n hx hb gX11_findingOf_5.2.1 rfl (lv_at1 hl) ?_
      refine lv_iload_n hx hb gX11_findingOf_5.2.2.1 rfl (lv_at2 hl) ?_
      refine lv_iload_n hx hb gX11_findingOf_5.2.2.2.1 rfl (lv_at0 hl) ?_
      refine iV (wr := [(bsayings, oX8 16 8 bsayingsc (nI kbsayings)), (bsayingsc, iA G 128 fbsayings), (bwarnings, oX8 16 3 bwarningsc (nI kbwarnings)), (bwarningsc, iA G 48 fbwarnings)]) hC hK hl hP hD hS hA (c_leansOn l G h0 x1 r3265 bb kk ikp sg do9 ru9 ta9 tp9 ro9 ho9 de9 clk fi la ml mm sl sm cl clm fclm ffi fla fml fmm fsl fsm fc sh r1 rc rh ffc fsh bpersons bpapers bstamps bversions blines bsteps bsayings bfindings bwarnings bquestions td vd vl gp bversionsc kbversions fbversions bpersonsc kbpersons fbpersons bpapersc kbpapers fbpapers blinesc kblines fblines bstepsc kbsteps fbsteps bstampsc kbstamps fbstamps bfindingsc kbfindings fbfindings (hkbversions) (hkbpersons) (hkbpapers) (hkblines) (hkbsteps) (hkbstamps) (hkbfindings)) si_X11_277 [0, 1, 2, 3, 4, 5, 6, 7, 8, 9, 10, 11, 12, 13, 14, 15, 16, 17, 18, 19, 20, 21, 22, 23, 24, 25, 26, 27] [28, 29, 30, 31] sm_0_1_2_3_4_5_6_7_8_9_10_11_12_13_14_15_16_17_18_19_20_21_22_23_24_25_26_27 fm_0_1_2_3_4_5_6_7_8_9_10_11_12_13_14_15_16_17_18_19_20_21_22_23_24_25_26_27 nd_0_1_2_3_4_5_6_7_8_9_10_11_12_13_14_15_16_17_18_19_20_21_22_23_24_25_26_27 sm_28_29_30_31 nd_28_29_30_31 dj_0_1_2_3_4_5_6_7_8_9_10_11_12_13_14_15_16_17_18_19_20_21_22_23_24_25_26_27__28_29_30_31 rfl rfl rfl rfl rfl (Nat.le_of_ble_eq_true rfl) rm_9_8_5 ⟨Nat.le_of_ble_eq_true rfl, Nat.le_of_ble_eq_true rfl⟩ gX11_findingOf_5.2.2.2.2.1 (fun r3297 => Ktu13 fun cl13299 gclm3300 gfi3301 gla3302 gml3303 gmm3304 gsl3305 gsm3306 r113307 rc13308 rh13309 gfc3310 gsh3311 => ?_)
      intro H locs hr3297 hP hD hS
      try dsimp only at hr3297
      refine Kpdr (ws := [(bsayings, oX8 16 8 bsayingsc (nI kbsayings)), (bsayingsc, iA G 128 fbsayings), (bwarnings, oX8 16 3 bwarningsc (nI kbwarnings)), (bwarningsc, iA G 48 fbwarnings), (h0, oX11 bb kk ikp sg do9 ru9 ta9 tp9 ro9 ho9 de9), (sg, oX7 bb clk fi la ml mm sl sm cl13299), (clk, oX1 clm), (clm, iA G 36 gclm3300), (fi, iA G 12 gfi3301), (la, iA G 12 gla3302), (ml, iA G 12 gml3303), (mm, iA G 12 gmm3304), (sl, iA G 12 gsl3305), (sm, iA G 12 gsm3306), (ru9, oX6 bb sg fc sh r113307 rc13308 rh13309), (fc, iA G 5 gfc3310), (sh, iA G 8 gsh3311), (bb, oX0 bpersons bpapers bstamps bversions blines bsteps bsayings bfindings bwarnings bquestions td vd vl gp), (bversions, oX8 8 3 bversionsc (nI kbversions)), (bversionsc, iA G 24 fbversions), (bpersons, oX8 10 2 bpersonsc (nI kbpersons)), (bpersonsc, iA G 20 fbpersons), (bpapers, oX8 12 6 bpapersc (nI kbpapers)), (bpapersc, iA G 72 fbpapers), (blines, oX8 72 7 blinesc (nI kblines)), (blinesc, iA G 504 fblines), (bsteps, oX8 960 1 bstepsc (nI kbsteps)), (bstepsc, iA G 960 fbsteps), (bstamps, oX8 24 3 bstampsc (nI kbstamps)), (bstampsc, iA G 72 fbstamps), (bfindings, oX8 12 4 bfindingsc (nI kbfindings)), (bfindingsc, iA G 48 fbfindings)]) hP hD (fun hP hD => ?_)
      obtain ⟨hr3297, w3312⟩ := hr3297
      refine toQ hQ0 ?_
      exact RI (v := r3297) hC hP hD hS [4, 5, 6, 7, 8, 9, 10, 11, 12, 13, 14, 15, 16, 17, 18, 19, 20, 21, 22, 23, 24, 25, 26, 27, 28, 29, 30, 31, 0, 1, 2, 3] (cl13299, gclm3300, gfi3301, gla3302, gml3303, gmm3304, gsl3305, gsm3306, r113307, rc13308, rh13309, gfc3310, gsh3311) rfl rfl (by decide) (⟨trivial, w3312⟩) rfl gX11_findingOf_5.2.2.2.2.2.1
    by_cases c_25_3313 : x2 = 6
    · refine lv_tableIn (tgt := 142) hx hb gX11_findingOf_1.2.2.2.1 (by rw [c_25_3313]; decide) (by rw [c_25_3313]; decide) (by rw [c_25_3313]; rfl) (by decide) ?_
      refine lv_aload_n hx hb gX11_findingOf_5.2.2.2.2.2.2.1 rfl (lv_at1 hl) ?_
      refine lv_iload_n hx hb gX11_findingOf_5.2.2.2.2.2.2.2.1 rfl (lv_at2 hl) ?_
      refine lv_iload_n hx hb gX11_findingOf_5.2.2.2.2.2.2.2.2.1 rfl (lv_at0 hl) ?_
      refine lv_aload_n hx hb gX11_findingOf_5.2.2.2.2.2.2.2.2.2 rfl (lv_at1 hl) ?_
      refine lv_iload_n hx hb gX11_findingOf_6.1 rfl (lv_at2 hl) ?_
      refine lv_iload_n hx hb gX11_findingOf_6.2.1 rfl (lv_at0 hl) ?_
      refine iV (wr := [(bsayings, oX8 16 8 bsayingsc (nI kbsayings)), (bsayingsc, iA G 128 fbsayings), (bwarnings, oX8 16 3 bwarningsc (nI kbwarnings)), (bwarningsc, iA G 48 fbwarnings)]) hC hK hl hP hD hS hA (c_leansOn l G h0 x1 r3265 bb kk ikp sg do9 ru9 ta9 tp9 ro9 ho9 de9 clk fi la ml mm sl sm cl clm fclm ffi fla fml fmm fsl fsm fc sh r1 rc rh ffc fsh bpersons bpapers bstamps bversions blines bsteps bsayings bfindings bwarnings bquestions td vd vl gp bversionsc kbversions fbversions bpersonsc kbpersons fbpersons bpapersc kbpapers fbpapers blinesc kblines fblines bstepsc kbsteps fbsteps bstampsc kbstamps fbstamps bfindingsc kbfindings fbfindings (hkbversions) (hkbpersons) (hkbpapers) (hkblines) (hkbsteps) (hkbstamps) (hkbfindings)) si_X11_277 [0, 1, 2, 3, 4, 5, 6, 7, 8, 9, 10, 11, 12, 13, 14, 15, 16, 17, 18, 19, 20, 21, 22, 23, 24, 25, 26, 27] [28, 29, 30, 31] sm_0_1_2_3_4_5_6_7_8_9_10_11_12_13_14_15_16_17_18_19_20_21_22_23_24_25_26_27 fm_0_1_2_3_4_5_6_7_8_9_10_11_12_13_14_15_16_17_18_19_20_21_22_23_24_25_26_27 nd_0_1_2_3_4_5_6_7_8_9_10_11_12_13_14_15_16_17_18_19_20_21_22_23_24_25_26_27 sm_28_29_30_31 nd_28_29_30_31 dj_0_1_2_3_4_5_6_7_8_9_10_11_12_13_14_15_16_17_18_19_20_21_22_23_24_25_26_27__28_29_30_31 rfl rfl rfl rfl rfl (Nat.le_of_ble_eq_true rfl) rm_9_8_5 ⟨Nat.le_of_ble_eq_true rfl, Nat.le_of_ble_eq_true rfl⟩ gX11_findingOf_6.2.2.1 (fun r3314 => Ktu13 fun cl13316 gclm3317 gfi3318 gla3319 gml3320 gmm3321 gsl3322 gsm3323 r113324 rc13325 rh13326 gfc3327 gsh3328 => ?_)
      intro H locs hr3314 hP hD hS
      try dsimp only at hr3314
      refine Kpdr (ws := [(bsayings, oX8 16 8 bsayingsc (nI kbsayings)), (bsayingsc, iA G 128 fbsayings), (bwarnings, oX8 16 3 bwarningsc (nI kbwarnings)), (bwarningsc, iA G 48 fbwarnings), (h0, oX11 bb kk ikp sg do9 ru9 ta9 tp9 ro9 ho9 de9), (sg, oX7 bb clk fi la ml mm sl sm cl13316), (clk, oX1 clm), (clm, iA G 36 gclm3317), (fi, iA G 12 gfi3318), (la, iA G 12 gla3319), (ml, iA G 12 gml3320), (mm, iA G 12 gmm3321), (sl, iA G 12 gsl3322), (sm, iA G 12 gsm3323), (ru9, oX6 bb sg fc sh r113324 rc13325 rh13326), (fc, iA G 5 gfc3327), (sh, iA G 8 gsh3328), (bb, oX0 bpersons bpapers bstamps bversions blines bsteps bsayings bfindings bwarnings bquestions td vd vl gp), (bversions, oX8 8 3 bversionsc (nI kbversions)), (bversionsc, iA G 24 fbversions), (bpersons, oX8 10 2 bpersonsc (nI kbpersons)), (bpersonsc, iA G 20 fbpersons), (bpapers, oX8 12 6 bpapersc (nI kbpapers)), (bpapersc, iA G 72 fbpapers), (blines, oX8 72 7 blinesc (nI kblines)), (blinesc, iA G 504 fblines), (bsteps, oX8 960 1 bstepsc (nI kbsteps)), (bstepsc, iA G 960 fbsteps), (bstamps, oX8 24 3 bstampsc (nI kbstamps)), (bstampsc, iA G 72 fbstamps), (bfindings, oX8 12 4 bfindingsc (nI kbfindings)), (bfindingsc, iA G 48 fbfindings)]) hP hD (fun hP hD => ?_)
      obtain ⟨hr3314, w3329⟩ := hr3314
      refine iV (wr := [(sg, oX7 bb clk fi la ml mm sl sm cl13316), (clk, oX1 clm), (clm, iA G 36 gclm3317), (fi, iA G 12 gfi3318), (la, iA G 12 gla3319), (ml, iA G 12 gml3320), (mm, iA G 12 gmm3321), (sl, iA G 12 gsl3322), (sm, iA G 12 gsm3323), (bstamps, oX8 24 3 bstampsc (nI kbstamps)), (bstampsc, iA G 72 fbstamps)]) hC hK hl hP hD hS hA (c_isBarred l G h0 x1 r3265 r3314 bb kk ikp sg do9 ru9 ta9 tp9 ro9 ho9 de9 fc sh r113324 rc13325 rh13326 gfc3327 gsh3328 bpersons bpapers bstamps bversions blines bsteps bsayings bfindings bwarnings bquestions td vd vl gp bversionsc kbversions fbversions bpersonsc kbpersons fbpersons bpapersc kbpapers fbpapers blinesc kblines fblines bstepsc kbsteps fbsteps bfindingsc kbfindings fbfindings bsayingsc kbsayings fbsayings bwarningsc kbwarnings fbwarnings (hkbversions) (hkbpersons) (hkbpapers) (hkblines) (hkbsteps) (hkbfindings) (hkbsayings) (hkbwarnings)) si_X11_280 [4, 14, 15, 16, 17, 18, 19, 20, 21, 22, 23, 24, 25, 26, 27, 30, 31, 0, 1, 2, 3] [5, 6, 7, 8, 9, 10, 11, 12, 13, 28, 29] sm_4_14_15_16_17_18_19_20_21_22_23_24_25_26_27_30_31_0_1_2_3 fm_4_14_15_16_17_18_19_20_21_22_23_24_25_26_27_30_31_0_1_2_3 nd_4_14_15_16_17_18_19_20_21_22_23_24_25_26_27_30_31_0_1_2_3 sm_5_6_7_8_9_10_11_12_13_28_29 nd_5_6_7_8_9_10_11_12_13_28_29 dj_4_14_15_16_17_18_19_20_21_22_23_24_25_26_27_30_31_0_1_2_3__5_6_7_8_9_10_11_12_13_28_29 rfl rfl rfl rfl rfl (Nat.le_of_ble_eq_true rfl) rm_9_7_7 ⟨Nat.le_of_ble_eq_true rfl, Nat.le_of_ble_eq_true rfl⟩ gX11_findingOf_6.2.2.2.1 (fun r3330 => Ktu4 fun r113332 rc13333 rh13334 gfc3335 => ?_)
      intro H locs hr3330 hP hD hS
      try dsimp only at hr3330
      refine Kpdr (ws := [(sg, oX7 bb clk fi la ml mm sl sm cl13316), (clk, oX1 clm), (clm, iA G 36 gclm3317), (fi, iA G 12 gfi3318), (la, iA G 12 gla3319), (ml, iA G 12 gml3320), (mm, iA G 12 gmm3321), (sl, iA G 12 gsl3322), (sm, iA G 12 gsm3323), (bstamps, oX8 24 3 bstampsc (nI kbstamps)), (bstampsc, iA G 72 fbstamps), (h0, oX11 bb kk ikp sg do9 ru9 ta9 tp9 ro9 ho9 de9), (ru9, oX6 bb sg fc sh r113332 rc13333 rh13334), (fc, iA G 5 gfc3335), (sh, iA G 8 gsh3328), (bb, oX0 bpersons bpapers bstamps bversions blines bsteps bsayings bfindings bwarnings bquestions td vd vl gp), (bversions, oX8 8 3 bversionsc (nI kbversions)), (bversionsc, iA G 24 fbversions), (bpersons, oX8 10 2 bpersonsc (nI kbpersons)), (bpersonsc, iA G 20 fbpersons), (bpapers, oX8 12 6 bpapersc (nI kbpapers)), (bpapersc, iA G 72 fbpapers), (blines, oX8 72 7 blinesc (nI kblines)), (blinesc, iA G 504 fblines), (bsteps, oX8 960 1 bstepsc (nI kbsteps)), (bstepsc, iA G 960 fbsteps), (bfindings, oX8 12 4 bfindingsc (nI kbfindings)), (bfindingsc, iA G 48 fbfindings), (bsayings, oX8 16 8 bsayingsc (nI kbsayings)), (bsayingsc, iA G 128 fbsayings), (bwarnings, oX8 16 3 bwarningsc (nI kbwarnings)), (bwarningsc, iA G 48 fbwarnings)]) hP hD (fun hP hD => ?_)
      rcases hr3330 with rfl | rfl
      · refine lv_if_eq (tgt := 161) hx hb gX11_findingOf_6.2.2.2.2.1 (by decide) (fun c9 => absurd c9 (by decide)) (fun _ => ?_)
        refine lv_iconst (v := 1) hx hb gX11_findingOf_6.2.2.2.2.2.1 (by decide) ?_
        refine lv_goto (tgt := 162) hx hb gX11_findingOf_6.2.2.2.2.2.2.1 (by decide) ?_
        refine toQ hQ0 ?_
        exact RI (v := 1) hC hP hD hS [11, 0, 1, 2, 3, 4, 5, 6, 7, 8, 12, 13, 14, 15, 16, 17, 18, 19, 20, 21, 22, 23, 24, 25, 9, 10, 26, 27, 28, 29, 30, 31] (cl13316, gclm3317, gfi3318, gla3319, gml3320, gmm3321, gsl3322, gsm3323, r113332, rc13333, rh13334, gfc3335, gsh3328) rfl rfl (by decide) (⟨trivial, w3329⟩) rfl gX11_findingOf_6.2.2.2.2.2.2.2.2.1
      · refine lv_if_eq (tgt := 161) hx hb gX11_findingOf_6.2.2.2.2.1 (by decide) (fun _ => ?_) (fun c9 => absurd (by decide) c9)
        refine lv_iconst (v := 0) hx hb gX11_findingOf_6.2.2.2.2.2.2.2.1 (by decide) ?_
        refine toQ hQ0 ?_
        exact RI (v := 0) hC hP hD hS [11, 0, 1, 2, 3, 4, 5, 6, 7, 8, 12, 13, 14, 15, 16, 17, 18, 19, 20, 21, 22, 23, 24, 25, 9, 10, 26, 27, 28, 29, 30, 31] (cl13316, gclm3317, gfi3318, gla3319, gml3320, gmm3321, gsl3322, gsm3323, r113332, rc13333, rh13334, gfc3335, gsh3328) rfl rfl (by decide) (⟨trivial, w3329⟩) rfl gX11_findingOf_6.2.2.2.2.2.2.2.2.1
    refine lv_tableOut (tgt := 163) hx hb gX11_findingOf_1.2.2.2.1 (by have q9 := sw_0_6 (x := x2); simp only [c_25_3266, c_25_3269, c_25_3272, c_25_3275, c_25_3278, c_25_3296, c_25_3313, not_false_eq_true, true_implies] at q9; exact q9) (by decide) ?_
    refine lv_iconst (v := (-1)) hx hb gX11_findingOf_6.2.2.2.2.2.2.2.2.2 (by decide) ?_
    refine toQ hQ0 ?_
    exact RI (v := (-1)) hC hP hD hS [0, 1, 2, 3, 4, 5, 6, 7, 8, 9, 10, 11, 12, 13, 14, 15, 16, 17, 18, 19, 20, 21, 22, 23, 24, 25, 26, 27, 28, 29, 30, 31] (cl, fclm, ffi, fla, fml, fmm, fsl, fsm, r1, rc, rh, ffc, fsh) rfl rfl (by decide) (⟨trivial, hcl⟩) rfl gX11_findingOf_7
  · refine lv_if_ne (tgt := 16) hx hb gX11_findingOf_0.2.2.2.2.2.1 (by decide) (fun c9 => absurd (by decide) c9) (fun _ => ?_)
    refine lv_iconst (v := (-1)) hx hb gX11_findingOf_0.2.2.2.2.2.2.1 (by decide) ?_
    refine toQ hQ0 ?_
    exact RI (v := (-1)) hC hP hD hS [0, 1, 2, 3, 4, 5, 6, 7, 8, 9, 10, 11, 12, 13, 14, 15, 16, 17, 18, 19, 20, 21, 22, 23, 24, 25, 26, 27, 28, 29, 30, 31] (cl, fclm, ffi, fla, fml, fmm, fsl, fsm, r1, rc, rh, ffc, fsh) rfl rfl (by decide) (⟨trivial, hcl⟩) rfl gX11_findingOf_0.2.2.2.2.2.2.2.1
def K_c_leastWeight (l : Launch) (G : GG) (h0 : Nat) (bb : Nat) (sg : Nat) (tf : Int32) (tt9 : Int32) (tl : Int32) (tbv : Int32) : Prop := MP l G yX9_leastWeight cX9_leastWeight 1 (some .int) 1 [.ref h0] [(h0, oX9 bb sg tf tt9 tl tbv)] (fun r : Int32 => True)
set_option maxHeartbeats 4000000 in
set_option maxRecDepth 100000 in
theorem c_leastWeight (l : Launch) (G : GG) (h0 : Nat) (bb : Nat) (sg : Nat) (tf : Int32) (tt9 : Int32) (tl : Int32) (tbv : Int32) : K_c_leastWeight l G h0 bb sg tf tt9 tl tbv := by
  refine MP.start (by decide +kernel) (Nat.le_of_ble_eq_true rfl) ?_
  intro p e s m below meth c ls hC hK hP hD hl
  refine absQ (fun Q0 hQ0 => ?_)
  have hl : lv_has ls 1 [(0, .ref h0)] := hl
  refine Kan8 hC (fun hx hb hr hml hB hown hlocks hnm => ?_)
  refine lv_aload_n hx hb gX9_leastWeight_0.1 rfl (lv_at0 hl) ?_
  refine gf_X9_26 hC rfl hK hP 0 rfl rfl gX9_leastWeight_0.2.1 ?_
  refine toQ hQ0 ?_
  exact RP (v := tl) hC (trivial) rfl gX9_leastWeight_0.2.2
def K_c_believed (l : Launch) (G : GG) (h0 : Nat) (bb : Nat) (sg : Nat) (tf : Int32) (tt9 : Int32) (tl : Int32) (tbv : Int32) : Prop := MP l G yX9_believedHour cX9_believedHour 1 (some .int) 1 [.ref h0] [(h0, oX9 bb sg tf tt9 tl tbv)] (fun r : Int32 => True)
set_option maxHeartbeats 4000000 in
set_option maxRecDepth 100000 in
theorem c_believed (l : Launch) (G : GG) (h0 : Nat) (bb : Nat) (sg : Nat) (tf : Int32) (tt9 : Int32) (tl : Int32) (tbv : Int32) : K_c_believed l G h0 bb sg tf tt9 tl tbv := by
  refine MP.start (by decide +kernel) (Nat.le_of_ble_eq_true rfl) ?_
  intro p e s m below meth c ls hC hK hP hD hl
  refine absQ (fun Q0 hQ0 => ?_)
  have hl : lv_has ls 1 [(0, .ref h0)] := hl
  refine Kan8 hC (fun hx hb hr hml hB hown hlocks hnm => ?_)
  refine lv_aload_n hx hb gX9_believedHour_0.1 rfl (lv_at0 hl) ?_
  refine gf_X9_29 hC rfl hK hP 0 rfl rfl gX9_believedHour_0.2.1 ?_
  refine toQ hQ0 ?_
  exact RP (v := tbv) hC (trivial) rfl gX9_believedHour_0.2.2
def K_p_quarrel (l : Launch) (G : GG) (h0 : Nat) (x1 : Int32) (x2 : Int32) (x3 : Int32) (bb : Nat) (kk : Nat) (ikp : Int32) (sg : Nat) (do9 : Nat) (ru9 : Nat) (ta9 : Nat) (tp9 : Nat) (ro9 : Nat) (ho9 : Nat) (de9 : Nat) (clk : Nat) (fi : Nat) (la : Nat) (ml : Nat) (mm : Nat) (sl : Nat) (sm : Nat) (cl : Int32) (clm : Nat) (fclm : Nat → Int32) (ffi : Nat → Int32) (fla : Nat → Int32) (fml : Nat → Int32) (fmm : Nat → Int32) (fsl : Nat → Int32) (fsm : Nat → Int32) (tf : Int32) (tt9 : Int32) (tl : Int32) (tbv : Int32) (bpersons : Nat) (bpapers : Nat) (bstamps : Nat) (bversions : Nat) (blines : Nat) (bsteps : Nat) (bsayings : Nat) (bfindings : Nat) (bwarnings : Nat) (bquestions : Nat) (td : Int32) (vd : Int32) (vl : Int32) (gp : Int32) (bpapersc : Nat) (kbpapers : Nat) (fbpapers : Nat → Int32) (bpersonsc : Nat) (kbpersons : Nat) (fbpersons : Nat → Int32) (bsayingsc : Nat) (kbsayings : Nat) (fbsayings : Nat → Int32) (bstampsc : Nat) (kbstamps : Nat) (fbstamps : Nat → Int32) : Prop := MI l G yX11_quarrel cX11_quarrel 5 (some .int) 8 0 0 [.ref h0, .int x1, .int x2, .int x3] [(h0, oX11 bb kk ikp sg do9 ru9 ta9 tp9 ro9 ho9 de9), (sg, oX7 bb clk fi la ml mm sl sm cl), (clk, oX1 clm), (clm, iA G 36 fclm), (fi, iA G 12 ffi), (la, iA G 12 fla), (ml, iA G 12 fml), (mm, iA G 12 fmm), (sl, iA G 12 fsl), (sm, iA G 12 fsm), (ta9, oX9 bb sg tf tt9 tl tbv), (bb, oX0 bpersons bpapers bstamps bversions blines bsteps bsayings bfindings bwarnings bquestions td vd vl gp), (bpapers, oX8 12 6 bpapersc (nI kbpapers)), (bpapersc, iA G 72 fbpapers), (bpersons, oX8 10 2 bpersonsc (nI kbpersons)), (bpersonsc, iA G 20 fbpersons), (bsayings, oX8 16 8 bsayingsc (nI kbsayings)), (bsayingsc, iA G 128 fbsayings), (bstamps, oX8 24 3 bstampsc (nI kbstamps)), (bstampsc, iA G 72 fbstamps)] (fun (r : Int32) (u : Int32 × (Nat → Int32) × (Nat → Int32) × (Nat → Int32) × (Nat → Int32) × (Nat → Int32) × (Nat → Int32) × (Nat → Int32) × Int32 × Int32 × Int32 × Int32) => (True) ∧ (u.1 = 0 ∨ u.1 = 1)) (fun u : Int32 × (Nat → Int32) × (Nat → Int32) × (Nat → Int32) × (Nat → Int32) × (Nat → Int32) × (Nat → Int32) × (Nat → Int32) × Int32 × Int32 × Int32 × Int32 => [(h0, oX11 bb kk ikp sg do9 ru9 ta9 tp9 ro9 ho9 de9), (sg, oX7 bb clk fi la ml mm sl sm u.1), (clk, oX1 clm), (clm, iA G 36 u.2.1), (fi, iA G 12 u.2.2.1), (la, iA G 12 u.2.2.2.1), (ml, iA G 12 u.2.2.2.2.1), (mm, iA G 12 u.2.2.2.2.2.1), (sl, iA G 12 u.2.2.2.2.2.2.1), (sm, iA G 12 u.2.2.2.2.2.2.2.1), (ta9, oX9 bb sg u.2.2.2.2.2.2.2.2.1 u.2.2.2.2.2.2.2.2.2.1 u.2.2.2.2.2.2.2.2.2.2.1 u.2.2.2.2.2.2.2.2.2.2.2), (bb, oX0 bpersons bpapers bstamps bversions blines bsteps bsayings bfindings bwarnings bquestions td vd vl gp), (bpapers, oX8 12 6 bpapersc (nI kbpapers)), (bpapersc, iA G 72 fbpapers), (bpersons, oX8 10 2 bpersonsc (nI kbpersons)), (bpersonsc, iA G 20 fbpersons), (bsayings, oX8 16 8 bsayingsc (nI kbsayings)), (bsayingsc, iA G 128 fbsayings), (bstamps, oX8 24 3 bstampsc (nI kbstamps)), (bstampsc, iA G 72 fbstamps)])
set_option maxHeartbeats 4000000 in
set_option maxRecDepth 100000 in
theorem p_quarrel (l : Launch) (G : GG) (h0 : Nat) (x1 : Int32) (x2 : Int32) (x3 : Int32) (bb : Nat) (kk : Nat) (ikp : Int32) (sg : Nat) (do9 : Nat) (ru9 : Nat) (ta9 : Nat) (tp9 : Nat) (ro9 : Nat) (ho9 : Nat) (de9 : Nat) (clk : Nat) (fi : Nat) (la : Nat) (ml : Nat) (mm : Nat) (sl : Nat) (sm : Nat) (cl : Int32) (clm : Nat) (fclm : Nat → Int32) (ffi : Nat → Int32) (fla : Nat → Int32) (fml : Nat → Int32) (fmm : Nat → Int32) (fsl : Nat → Int32) (fsm : Nat → Int32) (tf : Int32) (tt9 : Int32) (tl : Int32) (tbv : Int32) (bpersons : Nat) (bpapers : Nat) (bstamps : Nat) (bversions : Nat) (blines : Nat) (bsteps : Nat) (bsayings : Nat) (bfindings : Nat) (bwarnings : Nat) (bquestions : Nat) (td : Int32) (vd : Int32) (vl : Int32) (gp : Int32) (bpapersc : Nat) (kbpapers : Nat) (fbpapers : Nat → Int32) (bpersonsc : Nat) (kbpersons : Nat) (fbpersons : Nat → Int32) (bsayingsc : Nat) (kbsayings : Nat) (fbsayings : Nat → Int32) (bstampsc : Nat) (kbstamps : Nat) (fbstamps : Nat → Int32) (hkbpapers : kbpapers ≤ 12) (hkbpersons : kbpersons ≤ 10) (hkbsayings : kbsayings ≤ 16) (hkbstamps : kbstamps ≤ 24) (hcl : cl = 0 ∨ cl = 1) : K_p_quarrel l G h0 x1 x2 x3 bb kk ikp sg do9 ru9 ta9 tp9 ro9 ho9 de9 clk fi la ml mm sl sm cl clm fclm ffi fla fml fmm fsl fsm tf tt9 tl tbv bpersons bpapers bstamps bversions blines bsteps bsayings bfindings bwarnings bquestions td vd vl gp bpapersc kbpapers fbpapers bpersonsc kbpersons fbpersons bsayingsc kbsayings fbsayings bstampsc kbstamps fbstamps := by
  refine MI.start (by decide +kernel) (Nat.le_of_ble_eq_true rfl) ?_
  intro p e s m below meth c A ls hC hK hP hD hS hA hl
  refine absQ (fun Q0 hQ0 => ?_)
  have hl : lv_has ls 5 [(0, .ref h0), (1, .int x1), (2, .int x2), (3, .int x3)] := hl
  refine Kan8 hC (fun hx hb hr hml hB hown hlocks hnm => ?_)
  refine lv_aload_n hx hb gX11_quarrel_0.1 rfl (lv_at0 hl) ?_
  refine gf_X11_15 hC rfl hK hP 0 rfl rfl gX11_quarrel_0.2.1 ?_
  refine gf_X11_107 hC rfl hK hP 11 rfl rfl gX11_quarrel_0.2.2.1 ?_
  refine lv_iload_n hx hb gX11_quarrel_0.2.2.2.1 rfl (lv_at1 hl) ?_
  refine pV hC hK hl hP hD (c_T_has l G bpersons x1 10 2 bpersonsc kbpersons) si_X11_124 [14] sm_14 fm_14 nd_14 rfl rfl rfl rfl rfl (Nat.le_of_ble_eq_true rfl) rm_8_1_2 ⟨by first | exact Nat.le_of_ble_eq_true rfl | exact Nat.zero_le _, by first | exact Nat.le_of_ble_eq_true rfl | exact Nat.zero_le _⟩ gX11_quarrel_0.2.2.2.2.1 (Kors (Keqa fun a3338 => ?_) (Keqa fun a3338 => ?_))
  · refine lv_if_eq (tgt := 37) hx hb gX11_quarrel_0.2.2.2.2.2.1 (by decide) (fun c9 => absurd c9 (by decide)) (fun _ => ?_)
    refine lv_aload_n hx hb gX11_quarrel_0.2.2.2.2.2.2.1 rfl (lv_at0 hl) ?_
    refine gf_X11_15 hC rfl hK hP 0 rfl rfl gX11_quarrel_0.2.2.2.2.2.2.2.1 ?_
    refine gf_X11_144 hC rfl hK hP 11 rfl rfl gX11_quarrel_0.2.2.2.2.2.2.2.2.1 ?_
    refine lv_iload_n hx hb gX11_quarrel_0.2.2.2.2.2.2.2.2.2 rfl (lv_at2 hl) ?_
    refine pV hC hK hl hP hD (c_T_has l G bpapers x2 12 6 bpapersc kbpapers) si_X11_124 [12] sm_12 fm_12 nd_12 rfl rfl rfl rfl rfl (Nat.le_of_ble_eq_true rfl) rm_8_1_2 ⟨by first | exact Nat.le_of_ble_eq_true rfl | exact Nat.zero_le _, by first | exact Nat.le_of_ble_eq_true rfl | exact Nat.zero_le _⟩ gX11_quarrel_1.1 (Kors (Keqa fun a3340 => ?_) (Keqa fun a3340 => ?_))
    · refine lv_if_eq (tgt := 37) hx hb gX11_quarrel_1.2.1 (by decide) (fun c9 => absurd c9 (by decide)) (fun _ => ?_)
      refine lv_iload_n hx hb gX11_quarrel_1.2.2.1 rfl (lv_at3 hl) ?_
      refine lv_iconst (v := 0) hx hb gX11_quarrel_1.2.2.2.1 (by decide) ?_
      refine lv_iconst (v := 1) hx hb gX11_quarrel_1.2.2.2.2.1 (by decide) ?_
      refine pS hC hK hl (c_within l G x3 0 1) si_X11_83 rfl rfl (Nat.le_of_ble_eq_true rfl) rm_8_1_3 ⟨by first | exact Nat.le_of_ble_eq_true rfl | exact Nat.zero_le _, by first | exact Nat.le_of_ble_eq_true rfl | exact Nat.zero_le _⟩ gX11_quarrel_1.2.2.2.2.2.1 (Kors (Keqa fun a3342 => ?_) (Keqa fun a3342 => ?_))
      · refine lv_if_ne (tgt := 39) hx hb gX11_quarrel_1.2.2.2.2.2.2.1 (by decide) (fun _ => ?_) (fun c9 => absurd c9 (by decide))
        refine lv_aload_n hx hb gX11_quarrel_1.2.2.2.2.2.2.2.2.2 rfl (lv_at0 hl) ?_
        refine gf_X11_15 hC rfl hK hP 0 rfl rfl gX11_quarrel_2.1 ?_
        refine pV hC hK hl hP hD (c_inView l G bb bpersons bpapers bstamps bversions blines bsteps bsayings bfindings bwarnings bquestions td vd vl gp bpapersc kbpapers fbpapers (hkbpapers)) si_X11_97 [11, 12, 13] sm_11_12_13 fm_11_12_13 nd_11_12_13 rfl rfl rfl rfl rfl (Nat.le_of_ble_eq_true rfl) rm_8_3_6 ⟨by first | exact Nat.le_of_ble_eq_true rfl | exact Nat.zero_le _, by first | exact Nat.le_of_ble_eq_true rfl | exact Nat.zero_le _⟩ gX11_quarrel_2.2.1 (fun r3343 hr3343 => ?_)
        refine lv_istore (lv' := [(4, .int r3343), (0, .ref h0), (1, .int x1), (2, .int x2), (3, .int x3)]) hx hb gX11_quarrel_2.2.2.1 hl (by decide) rfl (fun ls hl => ?_)
        refine lv_iload hx hb gX11_quarrel_2.2.2.2.1 (lv_at0 hl) ?_
        refine lv_iload_n hx hb gX11_quarrel_2.2.2.2.2.1 rfl (lv_at3 hl) ?_
        refine pS hC hK hl (c_hasBit l G r3343 x2) si_X11_150 rfl rfl (Nat.le_of_ble_eq_true rfl) rm_8_1_2 ⟨by first | exact Nat.le_of_ble_eq_true rfl | exact Nat.zero_le _, by first | exact Nat.le_of_ble_eq_true rfl | exact Nat.zero_le _⟩ gX11_quarrel_2.2.2.2.2.2.1 (Kors (Keqa fun a3345 => ?_) (Keqa fun a3345 => ?_))
        · refine lv_if_ne (tgt := 60) hx hb gX11_quarrel_2.2.2.2.2.2.2.1 (by decide) (fun _ => ?_) (fun c9 => absurd c9 (by decide))
          refine lv_aload_n hx hb gX11_quarrel_2.2.2.2.2.2.2.2.2.2 rfl (lv_at1 hl) ?_
          refine gf_X11_28 hC rfl hK hP 0 rfl rfl gX11_quarrel_3.1 ?_
          refine lv_iload hx hb gX11_quarrel_3.2.1 (lv_at0 hl) ?_
          refine vV (wr := [(h0, oX11 bb kk ikp sg do9 ru9 ta9 tp9 ro9 ho9 de9), (ta9, oX9 bb sg tf tt9 tl tbv), (bpapers, oX8 12 6 bpapersc (nI kbpapers)), (bpapersc, iA G 72 fbpapers), (bpersons, oX8 10 2 bpersonsc (nI kbpersons)), (bpersonsc, iA G 20 fbpersons), (bsayings, oX8 16 8 bsayingsc (nI kbsayings)), (bsayingsc, iA G 128 fbsayings)]) hC hK hl hP hD hS hA (c_look l G sg r3343 bb clk fi la ml mm sl sm cl clm fclm ffi fla fml fmm fsl fsm bpersons bpapers bstamps bversions blines bsteps bsayings bfindings bwarnings bquestions td vd vl gp bstampsc kbstamps fbstamps (hkbstamps)) si_X11_183 [1, 2, 3, 4, 5, 6, 7, 8, 9, 11, 18, 19] [0, 10, 12, 13, 14, 15, 16, 17] sm_1_2_3_4_5_6_7_8_9_11_18_19 fm_1_2_3_4_5_6_7_8_9_11_18_19 nd_1_2_3_4_5_6_7_8_9_11_18_19 sm_0_10_12_13_14_15_16_17 nd_0_10_12_13_14_15_16_17 dj_1_2_3_4_5_6_7_8_9_11_18_19__0_10_12_13_14_15_16_17 rfl rfl rfl rfl rfl (Nat.le_of_ble_eq_true rfl) rm_8_5_4 ⟨Nat.le_of_ble_eq_true rfl, Nat.le_of_ble_eq_true rfl⟩ gX11_quarrel_3.2.2.1 (Ktu8 fun cl13348 gclm3349 gfi3350 gla3351 gml3352 gmm3353 gsl3354 gsm3355 => ?_)
          intro H locs hr3346 hP hD hS
          try dsimp only at hr3346
          refine Kpdr (ws := [(h0, oX11 bb kk ikp sg do9 ru9 ta9 tp9 ro9 ho9 de9), (ta9, oX9 bb sg tf tt9 tl tbv), (bpapers, oX8 12 6 bpapersc (nI kbpapers)), (bpapersc, iA G 72 fbpapers), (bpersons, oX8 10 2 bpersonsc (nI kbpersons)), (bpersonsc, iA G 20 fbpersons), (bsayings, oX8 16 8 bsayingsc (nI kbsayings)), (bsayingsc, iA G 128 fbsayings), (sg, oX7 bb clk fi la ml mm sl sm cl13348), (clk, oX1 clm), (clm, iA G 36 gclm3349), (fi, iA G 12 gfi3350), (la, iA G 12 gla3351), (ml, iA G 12 gml3352), (mm, iA G 12 gmm3353), (sl, iA G 12 gsl3354), (sm, iA G 12 gsm3355), (bb, oX0 bpersons bpapers bstamps bversions blines bsteps bsayings bfindings bwarnings bquestions td vd vl gp), (bstamps, oX8 24 3 bstampsc (nI kbstamps)), (bstampsc, iA G 72 fbstamps)]) hP hD (fun hP hD => ?_)
          have w3356 := hr3346
          refine lv_aload_n hx hb gX11_quarrel_3.2.2.2.1 rfl (lv_at1 hl) ?_
          refine gf_X11_51 hC rfl hK hP 0 rfl rfl gX11_quarrel_3.2.2.2.2.1 ?_
          refine lv_iload_n hx hb gX11_quarrel_3.2.2.2.2.2.1 rfl (lv_at2 hl) ?_
          refine lv_iload_n hx hb gX11_quarrel_3.2.2.2.2.2.2.1 rfl (lv_at3 hl) ?_
          refine lv_iload hx hb gX11_quarrel_3.2.2.2.2.2.2.2.1 (lv_at0 hl) ?_
          refine vV (wr := [(h0, oX11 bb kk ikp sg do9 ru9 ta9 tp9 ro9 ho9 de9), (clk, oX1 clm), (clm, iA G 36 gclm3349), (fi, iA G 12 gfi3350), (bstamps, oX8 24 3 bstampsc (nI kbstamps)), (bstampsc, iA G 72 fbstamps)]) hC hK hl hP hD hS hA (c_weigh l G ta9 x1 x2 r3343 bb sg tf tt9 tl tbv clk fi la ml mm sl sm cl13348 gla3351 gml3352 gmm3353 gsl3354 gsm3355 bpersons bpapers bstamps bversions blines bsteps bsayings bfindings bwarnings bquestions td vd vl gp bpapersc kbpapers fbpapers bpersonsc kbpersons fbpersons bsayingsc kbsayings fbsayings (hkbpapers) (hkbpersons) (hkbsayings)) si_X11_259 [1, 8, 12, 13, 14, 15, 16, 17, 2, 3, 4, 5, 6, 7] [0, 9, 10, 11, 18, 19] sm_1_8_12_13_14_15_16_17_2_3_4_5_6_7 fm_1_8_12_13_14_15_16_17_2_3_4_5_6_7 nd_1_8_12_13_14_15_16_17_2_3_4_5_6_7 sm_0_9_10_11_18_19 nd_0_9_10_11_18_19 dj_1_8_12_13_14_15_16_17_2_3_4_5_6_7__0_9_10_11_18_19 rfl rfl rfl rfl rfl (Nat.le_of_ble_eq_true rfl) rm_8_6_7 ⟨Nat.le_of_ble_eq_true rfl, Nat.le_of_ble_eq_true rfl⟩ gX11_quarrel_3.2.2.2.2.2.2.2.2.1 (Ktu4 fun tf13359 tt13360 tl13361 tb13362 => ?_)
          intro H locs hr3357 hP hD hS
          try dsimp only at hr3357
          refine Kpdr (ws := [(h0, oX11 bb kk ikp sg do9 ru9 ta9 tp9 ro9 ho9 de9), (clk, oX1 clm), (clm, iA G 36 gclm3349), (fi, iA G 12 gfi3350), (bstamps, oX8 24 3 bstampsc (nI kbstamps)), (bstampsc, iA G 72 fbstamps), (ta9, oX9 bb sg tf13359 tt13360 tl13361 tb13362), (sg, oX7 bb clk fi la ml mm sl sm cl13348), (la, iA G 12 gla3351), (ml, iA G 12 gml3352), (mm, iA G 12 gmm3353), (sl, iA G 12 gsl3354), (sm, iA G 12 gsm3355), (bb, oX0 bpersons bpapers bstamps bversions blines bsteps bsayings bfindings bwarnings bquestions td vd vl gp), (bpapers, oX8 12 6 bpapersc (nI kbpapers)), (bpapersc, iA G 72 fbpapers), (bpersons, oX8 10 2 bpersonsc (nI kbpersons)), (bpersonsc, iA G 20 fbpersons), (bsayings, oX8 16 8 bsayingsc (nI kbsayings)), (bsayingsc, iA G 128 fbsayings)]) hP hD (fun hP hD => ?_)
          refine lv_iload_n hx hb gX11_quarrel_3.2.2.2.2.2.2.2.2.2 rfl (lv_at4 hl) ?_
          refine lv_if_ne (tgt := 94) hx hb gX11_quarrel_4.1 (by decide) (fun c_81_3363 => ?_) (fun c_81_3363 => ?_)
          · refine lv_aload_n hx hb gX11_quarrel_4.2.2.2.2.2.1 rfl (lv_at1 hl) ?_
            refine gf_X11_51 hC rfl hK hP 0 rfl rfl gX11_quarrel_4.2.2.2.2.2.2.1 ?_
            refine pV hC hK hl hP hD (c_believed l G ta9 bb sg tf13359 tt13360 tl13361 tb13362) si_X11_265 [6] sm_6 fm_6 nd_6 rfl rfl rfl rfl rfl (Nat.le_of_ble_eq_true rfl) rm_8_1_1 ⟨by first | exact Nat.le_of_ble_eq_true rfl | exact Nat.zero_le _, by first | exact Nat.le_of_ble_eq_true rfl | exact Nat.zero_le _⟩ gX11_quarrel_4.2.2.2.2.2.2.2.1 (fun r3364 hr3364 => ?_)
            refine lv_sipush (v := 1000) hx hb gX11_quarrel_4.2.2.2.2.2.2.2.2.1 (by decide) ?_
            refine lv_iadd hx hb gX11_quarrel_4.2.2.2.2.2.2.2.2.2 ?_
            refine toQ hQ0 ?_
            exact RI (v := r3364 + 1000) hC hP hD hS [0, 7, 1, 2, 3, 8, 9, 10, 11, 12, 6, 13, 14, 15, 16, 17, 18, 19, 4, 5] (cl13348, gclm3349, gfi3350, gla3351, gml3352, gmm3353, gsl3354, gsm3355, tf13359, tt13360, tl13361, tb13362) rfl rfl (by decide) (⟨trivial, w3356⟩) rfl gX11_quarrel_5
          · refine lv_aload_n hx hb gX11_quarrel_4.2.1 rfl (lv_at1 hl) ?_
            refine gf_X11_51 hC rfl hK hP 0 rfl rfl gX11_quarrel_4.2.2.1 ?_
            refine pV hC hK hl hP hD (c_leastWeight l G ta9 bb sg tf13359 tt13360 tl13361 tb13362) si_X11_262 [6] sm_6 fm_6 nd_6 rfl rfl rfl rfl rfl (Nat.le_of_ble_eq_true rfl) rm_8_1_1 ⟨by first | exact Nat.le_of_ble_eq_true rfl | exact Nat.zero_le _, by first | exact Nat.le_of_ble_eq_true rfl | exact Nat.zero_le _⟩ gX11_quarrel_4.2.2.2.1 (fun r3365 hr3365 => ?_)
            refine lv_goto (tgt := 105) hx hb gX11_quarrel_4.2.2.2.2.1 (by decide) ?_
            refine toQ hQ0 ?_
            exact RI (v := r3365) hC hP hD hS [0, 7, 1, 2, 3, 8, 9, 10, 11, 12, 6, 13, 14, 15, 16, 17, 18, 19, 4, 5] (cl13348, gclm3349, gfi3350, gla3351, gml3352, gmm3353, gsl3354, gsm3355, tf13359, tt13360, tl13361, tb13362) rfl rfl (by decide) (⟨trivial, w3356⟩) rfl gX11_quarrel_5
        · refine lv_if_ne (tgt := 60) hx hb gX11_quarrel_2.2.2.2.2.2.2.1 (by decide) (fun c9 => absurd (by decide) c9) (fun _ => ?_)
          refine lv_bipush (v := (-3)) hx hb gX11_quarrel_2.2.2.2.2.2.2.2.1 (by decide) ?_
          refine toQ hQ0 ?_
          exact RI (v := (-3)) hC hP hD hS [0, 1, 2, 3, 4, 5, 6, 7, 8, 9, 10, 11, 12, 13, 14, 15, 16, 17, 18, 19] (cl, fclm, ffi, fla, fml, fmm, fsl, fsm, tf, tt9, tl, tbv) rfl rfl (by decide) (⟨trivial, hcl⟩) rfl gX11_quarrel_2.2.2.2.2.2.2.2.2.1
      · refine lv_if_ne (tgt := 39) hx hb gX11_quarrel_1.2.2.2.2.2.2.1 (by decide) (fun c9 => absurd (by decide) c9) (fun _ => ?_)
        refine lv_iconst (v := (-1)) hx hb gX11_quarrel_1.2.2.2.2.2.2.2.1 (by decide) ?_
        refine toQ hQ0 ?_
        exact RI (v := (-1)) hC hP hD hS [0, 1, 2, 3, 4, 5, 6, 7, 8, 9, 10, 11, 12, 13, 14, 15, 16, 17, 18, 19] (cl, fclm, ffi, fla, fml, fmm, fsl, fsm, tf, tt9, tl, tbv) rfl rfl (by decide) (⟨trivial, hcl⟩) rfl gX11_quarrel_1.2.2.2.2.2.2.2.2.1
    · refine lv_if_eq (tgt := 37) hx hb gX11_quarrel_1.2.1 (by decide) (fun _ => ?_) (fun c9 => absurd (by decide) c9)
      refine lv_iconst (v := (-1)) hx hb gX11_quarrel_1.2.2.2.2.2.2.2.1 (by decide) ?_
      refine toQ hQ0 ?_
      exact RI (v := (-1)) hC hP hD hS [0, 1, 2, 3, 4, 5, 6, 7, 8, 9, 10, 11, 12, 13, 14, 15, 16, 17, 18, 19] (cl, fclm, ffi, fla, fml, fmm, fsl, fsm, tf, tt9, tl, tbv) rfl rfl (by decide) (⟨trivial, hcl⟩) rfl gX11_quarrel_1.2.2.2.2.2.2.2.2.1
  · refine lv_if_eq (tgt := 37) hx hb gX11_quarrel_0.2.2.2.2.2.1 (by decide) (fun _ => ?_) (fun c9 => absurd (by decide) c9)
    refine lv_iconst (v := (-1)) hx hb gX11_quarrel_1.2.2.2.2.2.2.2.1 (by decide) ?_
    refine toQ hQ0 ?_
    exact RI (v := (-1)) hC hP hD hS [0, 1, 2, 3, 4, 5, 6, 7, 8, 9, 10, 11, 12, 13, 14, 15, 16, 17, 18, 19] (cl, fclm, ffi, fla, fml, fmm, fsl, fsm, tf, tt9, tl, tbv) rfl rfl (by decide) (⟨trivial, hcl⟩) rfl gX11_quarrel_1.2.2.2.2.2.2.2.2.1
def K_p_impossible (l : Launch) (G : GG) (h0 : Nat) (bb : Nat) (kk : Nat) (ikp : Int32) (sg : Nat) (do9 : Nat) (ru9 : Nat) (ta9 : Nat) (tp9 : Nat) (ro9 : Nat) (ho9 : Nat) (de9 : Nat) (clk : Nat) (fi : Nat) (la : Nat) (ml : Nat) (mm : Nat) (sl : Nat) (sm : Nat) (cl : Int32) (clm : Nat) (fclm : Nat → Int32) (ffi : Nat → Int32) (fla : Nat → Int32) (fml : Nat → Int32) (fmm : Nat → Int32) (fsl : Nat → Int32) (fsm : Nat → Int32) (tf : Int32) (tt9 : Int32) (tl : Int32) (tbv : Int32) (bpersons : Nat) (bpapers : Nat) (bstamps : Nat) (bversions : Nat) (blines : Nat) (bsteps : Nat) (bsayings : Nat) (bfindings : Nat) (bwarnings : Nat) (bquestions : Nat) (td : Int32) (vd : Int32) (vl : Int32) (gp : Int32) (bpapersc : Nat) (kbpapers : Nat) (fbpapers : Nat → Int32) (bpersonsc : Nat) (kbpersons : Nat) (fbpersons : Nat → Int32) (bsayingsc : Nat) (kbsayings : Nat) (fbsayings : Nat → Int32) (bstampsc : Nat) (kbstamps : Nat) (fbstamps : Nat → Int32) : Prop := MI l G yX11_impossible cX11_impossible 2 (some .int) 8 0 0 [.ref h0] [(h0, oX11 bb kk ikp sg do9 ru9 ta9 tp9 ro9 ho9 de9), (sg, oX7 bb clk fi la ml mm sl sm cl), (clk, oX1 clm), (clm, iA G 36 fclm), (fi, iA G 12 ffi), (la, iA G 12 fla), (ml, iA G 12 fml), (mm, iA G 12 fmm), (sl, iA G 12 fsl), (sm, iA G 12 fsm), (ta9, oX9 bb sg tf tt9 tl tbv), (bb, oX0 bpersons bpapers bstamps bversions blines bsteps bsayings bfindings bwarnings bquestions td vd vl gp), (bpapers, oX8 12 6 bpapersc (nI kbpapers)), (bpapersc, iA G 72 fbpapers), (bpersons, oX8 10 2 bpersonsc (nI kbpersons)), (bpersonsc, iA G 20 fbpersons), (bsayings, oX8 16 8 bsayingsc (nI kbsayings)), (bsayingsc, iA G 128 fbsayings), (bstamps, oX8 24 3 bstampsc (nI kbstamps)), (bstampsc, iA G 72 fbstamps)] (fun (r : Int32) (u : Int32 × (Nat → Int32) × (Nat → Int32) × (Nat → Int32) × (Nat → Int32) × (Nat → Int32) × (Nat → Int32) × (Nat → Int32) × Int32 × Int32) => (True) ∧ (u.1 = 0 ∨ u.1 = 1)) (fun u : Int32 × (Nat → Int32) × (Nat → Int32) × (Nat → Int32) × (Nat → Int32) × (Nat → Int32) × (Nat → Int32) × (Nat → Int32) × Int32 × Int32 => [(h0, oX11 bb kk ikp sg do9 ru9 ta9 tp9 ro9 ho9 de9), (sg, oX7 bb clk fi la ml mm sl sm u.1), (clk, oX1 clm), (clm, iA G 36 u.2.1), (fi, iA G 12 u.2.2.1), (la, iA G 12 u.2.2.2.1), (ml, iA G 12 u.2.2.2.2.1), (mm, iA G 12 u.2.2.2.2.2.1), (sl, iA G 12 u.2.2.2.2.2.2.1), (sm, iA G 12 u.2.2.2.2.2.2.2.1), (ta9, oX9 bb sg u.2.2.2.2.2.2.2.2.1 u.2.2.2.2.2.2.2.2.2 tl tbv), (bb, oX0 bpersons bpapers bstamps bversions blines bsteps bsayings bfindings bwarnings bquestions td vd vl gp), (bpapers, oX8 12 6 bpapersc (nI kbpapers)), (bpapersc, iA G 72 fbpapers), (bpersons, oX8 10 2 bpersonsc (nI kbpersons)), (bpersonsc, iA G 20 fbpersons), (bsayings, oX8 16 8 bsayingsc (nI kbsayings)), (bsayingsc, iA G 128 fbsayings), (bstamps, oX8 24 3 bstampsc (nI kbstamps)), (bstampsc, iA G 72 fbstamps)])
set_option maxHeartbeats 4000000 in
set_option maxRecDepth 100000 in
theorem p_impossible (l : Launch) (G : GG) (h0 : Nat) (bb : Nat) (kk : Nat) (ikp : Int32) (sg : Nat) (do9 : Nat) (ru9 : Nat) (ta9 : Nat) (tp9 : Nat) (ro9 : Nat) (ho9 : Nat) (de9 : Nat) (clk : Nat) (fi : Nat) (la : Nat) (ml : Nat) (mm : Nat) (sl : Nat) (sm : Nat) (cl : Int32) (clm : Nat) (fclm : Nat → Int32) (ffi : Nat → Int32) (fla : Nat → Int32) (fml : Nat → Int32) (fmm : Nat → Int32) (fsl : Nat → Int32) (fsm : Nat → Int32) (tf : Int32) (tt9 : Int32) (tl : Int32) (tbv : Int32) (bpersons : Nat) (bpapers : Nat) (bstamps : Nat) (bversions : Nat) (blines : Nat) (bsteps : Nat) (bsayings : Nat) (bfindings : Nat) (bwarnings : Nat) (bquestions : Nat) (td : Int32) (vd : Int32) (vl : Int32) (gp : Int32) (bpapersc : Nat) (kbpapers : Nat) (fbpapers : Nat → Int32) (bpersonsc : Nat) (kbpersons : Nat) (fbpersons : Nat → Int32) (bsayingsc : Nat) (kbsayings : Nat) (fbsayings : Nat → Int32) (bstampsc : Nat) (kbstamps : Nat) (fbstamps : Nat → Int32) (hkbpapers : kbpapers ≤ 12) (hkbpersons : kbpersons ≤ 10) (hkbsayings : kbsayings ≤ 16) (hkbstamps : kbstamps ≤ 24) (hcl : cl = 0 ∨ cl = 1) : K_p_impossible l G h0 bb kk ikp sg do9 ru9 ta9 tp9 ro9 ho9 de9 clk fi la ml mm sl sm cl clm fclm ffi fla fml fmm fsl fsm tf tt9 tl tbv bpersons bpapers bstamps bversions blines bsteps bsayings bfindings bwarnings bquestions td vd vl gp bpapersc kbpapers fbpapers bpersonsc kbpersons fbpersons bsayingsc kbsayings fbsayings bstampsc kbstamps fbstamps := by
  refine MI.start (by decide +kernel) (Nat.le_of_ble_eq_true rfl) ?_
  intro p e s m below meth c A ls hC hK hP hD hS hA hl
  refine absQ (fun Q0 hQ0 => ?_)
  have hl : lv_has ls 2 [(0, .ref h0)] := hl
  refine Kan8 hC (fun hx hb hr hml hB hown hlocks hnm => ?_)
  refine lv_aload_n hx hb gX11_impossible_0.1 rfl (lv_at0 hl) ?_
  refine gf_X11_15 hC rfl hK hP 0 rfl rfl gX11_impossible_0.2.1 ?_
  refine pV hC hK hl hP hD (c_inView l G bb bpersons bpapers bstamps bversions blines bsteps bsayings bfindings bwarnings bquestions td vd vl gp bpapersc kbpapers fbpapers (hkbpapers)) si_X11_97 [11, 12, 13] sm_11_12_13 fm_11_12_13 nd_11_12_13 rfl rfl rfl rfl rfl (Nat.le_of_ble_eq_true rfl) rm_8_3_6 ⟨by first | exact Nat.le_of_ble_eq_true rfl | exact Nat.zero_le _, by first | exact Nat.le_of_ble_eq_true rfl | exact Nat.zero_le _⟩ gX11_impossible_0.2.2.1 (fun r3366 hr3366 => ?_)
  refine lv_istore_n (lv' := [(1, .int r3366), (0, .ref h0)]) hx hb gX11_impossible_0.2.2.2.1 rfl hl (by decide) rfl (fun ls hl => ?_)
  refine lv_aload_n hx hb gX11_impossible_0.2.2.2.2.1 rfl (lv_at1 hl) ?_
  refine gf_X11_28 hC rfl hK hP 0 rfl rfl gX11_impossible_0.2.2.2.2.2.1 ?_
  refine lv_iload_n hx hb gX11_impossible_0.2.2.2.2.2.2.1 rfl (lv_at0 hl) ?_
  refine vV (wr := [(h0, oX11 bb kk ikp sg do9 ru9 ta9 tp9 ro9 ho9 de9), (ta9, oX9 bb sg tf tt9 tl tbv), (bpapers, oX8 12 6 bpapersc (nI kbpapers)), (bpapersc, iA G 72 fbpapers), (bpersons, oX8 10 2 bpersonsc (nI kbpersons)), (bpersonsc, iA G 20 fbpersons), (bsayings, oX8 16 8 bsayingsc (nI kbsayings)), (bsayingsc, iA G 128 fbsayings)]) hC hK hl hP hD hS hA (c_look l G sg r3366 bb clk fi la ml mm sl sm cl clm fclm ffi fla fml fmm fsl fsm bpersons bpapers bstamps bversions blines bsteps bsayings bfindings bwarnings bquestions td vd vl gp bstampsc kbstamps fbstamps (hkbstamps)) si_X11_183 [1, 2, 3, 4, 5, 6, 7, 8, 9, 11, 18, 19] [0, 10, 12, 13, 14, 15, 16, 17] sm_1_2_3_4_5_6_7_8_9_11_18_19 fm_1_2_3_4_5_6_7_8_9_11_18_19 nd_1_2_3_4_5_6_7_8_9_11_18_19 sm_0_10_12_13_14_15_16_17 nd_0_10_12_13_14_15_16_17 dj_1_2_3_4_5_6_7_8_9_11_18_19__0_10_12_13_14_15_16_17 rfl rfl rfl rfl rfl (Nat.le_of_ble_eq_true rfl) rm_8_5_4 ⟨Nat.le_of_ble_eq_true rfl, Nat.le_of_ble_eq_true rfl⟩ gX11_impossible_0.2.2.2.2.2.2.2.1 (Ktu8 fun cl13369 gclm3370 gfi3371 gla3372 gml3373 gmm3374 gsl3375 gsm3376 => ?_)
  intro H locs hr3367 hP hD hS
  try dsimp only at hr3367
  refine Kpdr (ws := [(h0, oX11 bb kk ikp sg do9 ru9 ta9 tp9 ro9 ho9 de9), (ta9, oX9 bb sg tf tt9 tl tbv), (bpapers, oX8 12 6 bpapersc (nI kbpapers)), (bpapersc, iA G 72 fbpapers), (bpersons, oX8 10 2 bpersonsc (nI kbpersons)), (bpersonsc, iA G 20 fbpersons), (bsayings, oX8 16 8 bsayingsc (nI kbsayings)), (bsayingsc, iA G 128 fbsayings), (sg, oX7 bb clk fi la ml mm sl sm cl13369), (clk, oX1 clm), (clm, iA G 36 gclm3370), (fi, iA G 12 gfi3371), (la, iA G 12 gla3372), (ml, iA G 12 gml3373), (mm, iA G 12 gmm3374), (sl, iA G 12 gsl3375), (sm, iA G 12 gsm3376), (bb, oX0 bpersons bpapers bstamps bversions blines bsteps bsayings bfindings bwarnings bquestions td vd vl gp), (bstamps, oX8 24 3 bstampsc (nI kbstamps)), (bstampsc, iA G 72 fbstamps)]) hP hD (fun hP hD => ?_)
  have w3377 := hr3367
  refine lv_aload_n hx hb gX11_impossible_0.2.2.2.2.2.2.2.2.1 rfl (lv_at1 hl) ?_
  refine gf_X11_51 hC rfl hK hP 0 rfl rfl gX11_impossible_0.2.2.2.2.2.2.2.2.2 ?_
  refine lv_iload_n hx hb gX11_impossible_1.1 rfl (lv_at0 hl) ?_
  refine iV (wr := [(h0, oX11 bb kk ikp sg do9 ru9 ta9 tp9 ro9 ho9 de9), (clk, oX1 clm), (clm, iA G 36 gclm3370), (fi, iA G 12 gfi3371), (bstamps, oX8 24 3 bstampsc (nI kbstamps)), (bstampsc, iA G 72 fbstamps)]) hC hK hl hP hD hS hA (c_impOnes l G ta9 r3366 bb sg tf tt9 tl tbv clk fi la ml mm sl sm cl13369 gla3372 gml3373 gmm3374 gsl3375 gsm3376 bpersons bpapers bstamps bversions blines bsteps bsayings bfindings bwarnings bquestions td vd vl gp bpapersc kbpapers fbpapers bpersonsc kbpersons fbpersons bsayingsc kbsayings fbsayings (hkbpapers) (hkbpersons) (hkbsayings)) si_X11_268 [1, 8, 12, 13, 14, 15, 16, 17, 2, 3, 4, 5, 6, 7] [0, 9, 10, 11, 18, 19] sm_1_8_12_13_14_15_16_17_2_3_4_5_6_7 fm_1_8_12_13_14_15_16_17_2_3_4_5_6_7 nd_1_8_12_13_14_15_16_17_2_3_4_5_6_7 sm_0_9_10_11_18_19 nd_0_9_10_11_18_19 dj_1_8_12_13_14_15_16_17_2_3_4_5_6_7__0_9_10_11_18_19 rfl rfl rfl rfl rfl (Nat.le_of_ble_eq_true rfl) rm_8_6_6 ⟨Nat.le_of_ble_eq_true rfl, Nat.le_of_ble_eq_true rfl⟩ gX11_impossible_1.2.1 (fun r3378 => Ktu2 fun tf13380 tt13381 => ?_)
  intro H locs hr3378 hP hD hS
  try dsimp only at hr3378
  refine Kpdr (ws := [(h0, oX11 bb kk ikp sg do9 ru9 ta9 tp9 ro9 ho9 de9), (clk, oX1 clm), (clm, iA G 36 gclm3370), (fi, iA G 12 gfi3371), (bstamps, oX8 24 3 bstampsc (nI kbstamps)), (bstampsc, iA G 72 fbstamps), (ta9, oX9 bb sg tf13380 tt13381 tl tbv), (sg, oX7 bb clk fi la ml mm sl sm cl13369), (la, iA G 12 gla3372), (ml, iA G 12 gml3373), (mm, iA G 12 gmm3374), (sl, iA G 12 gsl3375), (sm, iA G 12 gsm3376), (bb, oX0 bpersons bpapers bstamps bversions blines bsteps bsayings bfindings bwarnings bquestions td vd vl gp), (bpapers, oX8 12 6 bpapersc (nI kbpapers)), (bpapersc, iA G 72 fbpapers), (bpersons, oX8 10 2 bpersonsc (nI kbpersons)), (bpersonsc, iA G 20 fbpersons), (bsayings, oX8 16 8 bsayingsc (nI kbsayings)), (bsayingsc, iA G 128 fbsayings)]) hP hD (fun hP hD => ?_)
  refine toQ hQ0 ?_
  exact RI (v := r3378) hC hP hD hS [0, 7, 1, 2, 3, 8, 9, 10, 11, 12, 6, 13, 14, 15, 16, 17, 18, 19, 4, 5] (cl13369, gclm3370, gfi3371, gla3372, gml3373, gmm3374, gsl3375, gsm3376, tf13380, tt13381) rfl rfl (by decide) (⟨trivial, w3377⟩) rfl gX11_impossible_1.2.2
def K_c_handHour0X (l : Launch) (G : GG) (h0 : Nat) (jp : Nat) (je : Nat) (bb : Nat) (clk : Nat) (fi : Nat) (la : Nat) (ml : Nat) (mm : Nat) (sl : Nat) (sm : Nat) (cl : Int32) (fla : Nat → Int32) (fml : Nat → Int32) (fmm : Nat → Int32) (fsl : Nat → Int32) (fsm : Nat → Int32) (bpersons : Nat) (bpapers : Nat) (bstamps : Nat) (bversions : Nat) (blines : Nat) (bsteps : Nat) (bsayings : Nat) (bfindings : Nat) (bwarnings : Nat) (bquestions : Nat) (td : Int32) (vd : Int32) (vl : Int32) (gp : Int32) (bpapersc : Nat) (kbpapers : Nat) (fbpapers : Nat → Int32) (bpersonsc : Nat) (kbpersons : Nat) (fbpersons : Nat → Int32) : Prop := MP l G yX7_handHour cX7_handHour 4 (some .int) 3 [.ref h0, .int (nI jp), .int (nI je), .int 0] [(h0, oX7 bb clk fi la ml mm sl sm cl), (la, iA G 12 fla), (ml, iA G 12 fml), (mm, iA G 12 fmm), (sl, iA G 12 fsl), (sm, iA G 12 fsm), (bb, oX0 bpersons bpapers bstamps bversions blines bsteps bsayings bfindings bwarnings bquestions td vd vl gp), (bpapers, oX8 12 6 bpapersc (nI kbpapers)), (bpapersc, iA G 72 fbpapers), (bpersons, oX8 10 2 bpersonsc (nI kbpersons)), (bpersonsc, iA G 20 fbpersons)] (fun r : Int32 => (r = (fml jp) ∧ fbpapers (jp * 6 + 0) = nI je) ∨ (r = (fsl jp) ∧ ¬ fbpapers (jp * 6 + 0) = nI je))
set_option maxHeartbeats 4000000 in
set_option maxRecDepth 100000 in
theorem c_handHour0X (l : Launch) (G : GG) (h0 : Nat) (jp : Nat) (je : Nat) (bb : Nat) (clk : Nat) (fi : Nat) (la : Nat) (ml : Nat) (mm : Nat) (sl : Nat) (sm : Nat) (cl : Int32) (fla : Nat → Int32) (fml : Nat → Int32) (fmm : Nat → Int32) (fsl : Nat → Int32) (fsm : Nat → Int32) (bpersons : Nat) (bpapers : Nat) (bstamps : Nat) (bversions : Nat) (blines : Nat) (bsteps : Nat) (bsayings : Nat) (bfindings : Nat) (bwarnings : Nat) (bquestions : Nat) (td : Int32) (vd : Int32) (vl : Int32) (gp : Int32) (bpapersc : Nat) (kbpapers : Nat) (fbpapers : Nat → Int32) (bpersonsc : Nat) (kbpersons : Nat) (fbpersons : Nat → Int32) (hkbpapers : kbpapers ≤ 12) (hkbpersons : kbpersons ≤ 10) (hsn : (cl = 0 ∧ ¬ fla jp < 0)) (hjp : jp < kbpapers) (hje : je < kbpersons) : K_c_handHour0X l G h0 jp je bb clk fi la ml mm sl sm cl fla fml fmm fsl fsm bpersons bpapers bstamps bversions blines bsteps bsayings bfindings bwarnings bquestions td vd vl gp bpapersc kbpapers fbpapers bpersonsc kbpersons fbpersons := by
  refine MP.start (by decide +kernel) (Nat.le_of_ble_eq_true rfl) ?_
  intro p e s m below meth c ls hC hK hP hD hl
  refine absQ (fun Q0 hQ0 => ?_)
  have hl : lv_has ls 4 [(0, .ref h0), (1, .int (nI jp)), (2, .int (nI je)), (3, .int 0)] := hl
  refine Kan8 hC (fun hx hb hr hml hB hown hlocks hnm => ?_)
  refine lv_aload_n hx hb gX7_handHour_0.1 rfl (lv_at0 hl) ?_
  refine lv_iload_n hx hb gX7_handHour_0.2.1 rfl (lv_at1 hl) ?_
  refine pV hC hK hl hP hD (c_isSentX l G h0 jp bb clk fi la ml mm sl sm cl fla (by omega)) si_X7_90 [0, 1] sm_0_1 fm_0_1 nd_0_1 rfl rfl rfl rfl rfl (Nat.le_of_ble_eq_true rfl) rm_3_1_2 ⟨by first | exact Nat.le_of_ble_eq_true rfl | exact Nat.zero_le _, by first | exact Nat.le_of_ble_eq_true rfl | exact Nat.zero_le _⟩ gX7_handHour_0.2.2.1 (Kors (Keqa fun a3383 => ?_) (Keqa fun a3383 => ?_))
  · refine lv_if_ne (tgt := 10) hx hb gX7_handHour_0.2.2.2.1 (by decide) (fun _ => ?_) (fun c9 => absurd c9 (by decide))
    refine lv_aload_n hx hb gX7_handHour_0.2.2.2.2.2.2.1 rfl (lv_at0 hl) ?_
    refine gf_X7_37 hC rfl hK hP 0 rfl rfl gX7_handHour_0.2.2.2.2.2.2.2.1 ?_
    refine gf_X7_94 hC rfl hK hP 6 rfl rfl gX7_handHour_0.2.2.2.2.2.2.2.2.1 ?_
    refine lv_iload_n hx hb gX7_handHour_0.2.2.2.2.2.2.2.2.2 rfl (lv_at1 hl) ?_
    refine lv_iconst (v := 0) hx hb gX7_handHour_1.1 (by decide) ?_
    refine pV hC hK hl hP hD (c_T_at l G bpapers (nI jp) 0 12 6 bpapersc kbpapers fbpapers (hkbpapers) (by omega) (by omega)) si_X7_60 [7, 8] sm_7_8 fm_7_8 nd_7_8 rfl rfl rfl rfl rfl (Nat.le_of_ble_eq_true rfl) rm_3_1_3 ⟨by first | exact Nat.le_of_ble_eq_true rfl | exact Nat.zero_le _, by first | exact Nat.le_of_ble_eq_true rfl | exact Nat.zero_le _⟩ gX7_handHour_1.2.1 (fun r3384 hr3384 => ?_)
    refine eqi (x1 := fbpapers (jp * 6 + 0)) (hr3384.trans (tatq (by omega) (by omega) (by decide) (by decide) rfl)) ?_
    refine lv_iload_n hx hb gX7_handHour_1.2.2.1 rfl (lv_at2 hl) ?_
    refine lv_icmp_ne (tgt := 46) hx hb gX7_handHour_1.2.2.2.1 (by decide) (fun c_23_3386 => ?_) (fun c_23_3386 => ?_)
    · refine lv_iload_n hx hb gX7_handHour_2.2.2.2.2.2.2.1 rfl (lv_at3 hl) ?_
      refine lv_if_eq (tgt := 72) hx hb gX7_handHour_2.2.2.2.2.2.2.2.1 (by decide) (fun _ => ?_) (fun c9 => absurd (by decide) c9)
      refine lv_aload_n hx hb gX7_handHour_4.1 rfl (lv_at0 hl) ?_
      refine gf_X7_31 hC rfl hK hP 0 rfl rfl gX7_handHour_4.2.1 ?_
      refine lv_iload_n hx hb gX7_handHour_4.2.2.1 rfl (lv_at1 hl) ?_
      refine aldN hC hK hP 4 rfl (k := jp) (by omega) (Nat.le_of_ble_eq_true rfl) (v := fsl jp) rfl gX7_handHour_4.2.2.2.1 ?_
      refine toQ hQ0 ?_
      exact RP (v := fsl jp) hC (Or.inr ⟨rfl, c_23_3386⟩) rfl gX7_handHour_4.2.2.2.2
    · refine lv_iload_n hx hb gX7_handHour_1.2.2.2.2.1 rfl (lv_at3 hl) ?_
      refine lv_if_eq (tgt := 39) hx hb gX7_handHour_1.2.2.2.2.2.1 (by decide) (fun _ => ?_) (fun c9 => absurd (by decide) c9)
      refine lv_aload_n hx hb gX7_handHour_2.2.1 rfl (lv_at0 hl) ?_
      refine gf_X7_25 hC rfl hK hP 0 rfl rfl gX7_handHour_2.2.2.1 ?_
      refine lv_iload_n hx hb gX7_handHour_2.2.2.2.1 rfl (lv_at1 hl) ?_
      refine aldN hC hK hP 2 rfl (k := jp) (by omega) (Nat.le_of_ble_eq_true rfl) (v := fml jp) rfl gX7_handHour_2.2.2.2.2.1 ?_
      refine toQ hQ0 ?_
      exact RP (v := fml jp) hC (Or.inl ⟨rfl, c_23_3386⟩) rfl gX7_handHour_2.2.2.2.2.2.1
  · exact absurd hsn a3383
def K_c_handHour1X (l : Launch) (G : GG) (h0 : Nat) (jp : Nat) (je : Nat) (bb : Nat) (clk : Nat) (fi : Nat) (la : Nat) (ml : Nat) (mm : Nat) (sl : Nat) (sm : Nat) (cl : Int32) (fla : Nat → Int32) (fml : Nat → Int32) (fmm : Nat → Int32) (fsl : Nat → Int32) (fsm : Nat → Int32) (bpersons : Nat) (bpapers : Nat) (bstamps : Nat) (bversions : Nat) (blines : Nat) (bsteps : Nat) (bsayings : Nat) (bfindings : Nat) (bwarnings : Nat) (bquestions : Nat) (td : Int32) (vd : Int32) (vl : Int32) (gp : Int32) (bpapersc : Nat) (kbpapers : Nat) (fbpapers : Nat → Int32) (bpersonsc : Nat) (kbpersons : Nat) (fbpersons : Nat → Int32) : Prop := MP l G yX7_handHour cX7_handHour 4 (some .int) 3 [.ref h0, .int (nI jp), .int (nI je), .int 1] [(h0, oX7 bb clk fi la ml mm sl sm cl), (la, iA G 12 fla), (ml, iA G 12 fml), (mm, iA G 12 fmm), (sl, iA G 12 fsl), (sm, iA G 12 fsm), (bb, oX0 bpersons bpapers bstamps bversions blines bsteps bsayings bfindings bwarnings bquestions td vd vl gp), (bpapers, oX8 12 6 bpapersc (nI kbpapers)), (bpapersc, iA G 72 fbpapers), (bpersons, oX8 10 2 bpersonsc (nI kbpersons)), (bpersonsc, iA G 20 fbpersons)] (fun r : Int32 => (r = (fmm jp) ∧ fbpapers (jp * 6 + 0) = nI je) ∨ (r = (fsm jp + fbpersons (je * 2 + 1)) ∧ ¬ fbpapers (jp * 6 + 0) = nI je))
set_option maxHeartbeats 4000000 in
set_option maxRecDepth 100000 in
theorem c_handHour1X (l : Launch) (G : GG) (h0 : Nat) (jp : Nat) (je : Nat) (bb : Nat) (clk : Nat) (fi : Nat) (la : Nat) (ml : Nat) (mm : Nat) (sl : Nat) (sm : Nat) (cl : Int32) (fla : Nat → Int32) (fml : Nat → Int32) (fmm : Nat → Int32) (fsl : Nat → Int32) (fsm : Nat → Int32) (bpersons : Nat) (bpapers : Nat) (bstamps : Nat) (bversions : Nat) (blines : Nat) (bsteps : Nat) (bsayings : Nat) (bfindings : Nat) (bwarnings : Nat) (bquestions : Nat) (td : Int32) (vd : Int32) (vl : Int32) (gp : Int32) (bpapersc : Nat) (kbpapers : Nat) (fbpapers : Nat → Int32) (bpersonsc : Nat) (kbpersons : Nat) (fbpersons : Nat → Int32) (hkbpapers : kbpapers ≤ 12) (hkbpersons : kbpersons ≤ 10) (hsn : (cl = 0 ∧ ¬ fla jp < 0)) (hjp : jp < kbpapers) (hje : je < kbpersons) : K_c_handHour1X l G h0 jp je bb clk fi la ml mm sl sm cl fla fml fmm fsl fsm bpersons bpapers bstamps bversions blines bsteps bsayings bfindings bwarnings bquestions td vd vl gp bpapersc kbpapers fbpapers bpersonsc kbpersons fbpersons := by
  refine MP.start (by decide +kernel) (Nat.le_of_ble_eq_true rfl) ?_
  intro p e s m below meth c ls hC hK hP hD hl
  refine absQ (fun Q0 hQ0 => ?_)
  have hl : lv_has ls 4 [(0, .ref h0), (1, .int (nI jp)), (2, .int (nI je)), (3, .int 1)] := hl
  refine Kan8 hC (fun hx hb hr hml hB hown hlocks hnm => ?_)
  refine lv_aload_n hx hb gX7_handHour_0.1 rfl (lv_at0 hl) ?_
  refine lv_iload_n hx hb gX7_handHour_0.2.1 rfl (lv_at1 hl) ?_
  refine pV hC hK hl hP hD (c_isSentX l G h0 jp bb clk fi la ml mm sl sm cl fla (by omega)) si_X7_90 [0, 1] sm_0_1 fm_0_1 nd_0_1 rfl rfl rfl rfl rfl (Nat.le_of_ble_eq_true rfl) rm_3_1_2 ⟨by first | exact Nat.le_of_ble_eq_true rfl | exact Nat.zero_le _, by first | exact Nat.le_of_ble_eq_true rfl | exact Nat.zero_le _⟩ gX7_handHour_0.2.2.1 (Kors (Keqa fun a3388 => ?_) (Keqa fun a3388 => ?_))
  · refine lv_if_ne (tgt := 10) hx hb gX7_handHour_0.2.2.2.1 (by decide) (fun _ => ?_) (fun c9 => absurd c9 (by decide))
    refine lv_aload_n hx hb gX7_handHour_0.2.2.2.2.2.2.1 rfl (lv_at0 hl) ?_
    refine gf_X7_37 hC rfl hK hP 0 rfl rfl gX7_handHour_0.2.2.2.2.2.2.2.1 ?_
    refine gf_X7_94 hC rfl hK hP 6 rfl rfl gX7_handHour_0.2.2.2.2.2.2.2.2.1 ?_
    refine lv_iload_n hx hb gX7_handHour_0.2.2.2.2.2.2.2.2.2 rfl (lv_at1 hl) ?_
    refine lv_iconst (v := 0) hx hb gX7_handHour_1.1 (by decide) ?_
    refine pV hC hK hl hP hD (c_T_at l G bpapers (nI jp) 0 12 6 bpapersc kbpapers fbpapers (hkbpapers) (by omega) (by omega)) si_X7_60 [7, 8] sm_7_8 fm_7_8 nd_7_8 rfl rfl rfl rfl rfl (Nat.le_of_ble_eq_true rfl) rm_3_1_3 ⟨by first | exact Nat.le_of_ble_eq_true rfl | exact Nat.zero_le _, by first | exact Nat.le_of_ble_eq_true rfl | exact Nat.zero_le _⟩ gX7_handHour_1.2.1 (fun r3389 hr3389 => ?_)
    refine eqi (x1 := fbpapers (jp * 6 + 0)) (hr3389.trans (tatq (by omega) (by omega) (by decide) (by decide) rfl)) ?_
    refine lv_iload_n hx hb gX7_handHour_1.2.2.1 rfl (lv_at2 hl) ?_
    refine lv_icmp_ne (tgt := 46) hx hb gX7_handHour_1.2.2.2.1 (by decide) (fun c_23_3391 => ?_) (fun c_23_3391 => ?_)
    · refine lv_iload_n hx hb gX7_handHour_2.2.2.2.2.2.2.1 rfl (lv_at3 hl) ?_
      refine lv_if_eq (tgt := 72) hx hb gX7_handHour_2.2.2.2.2.2.2.2.1 (by decide) (fun c9 => absurd c9 (by decide)) (fun _ => ?_)
      refine lv_aload_n hx hb gX7_handHour_2.2.2.2.2.2.2.2.2.1 rfl (lv_at0 hl) ?_
      refine gf_X7_34 hC rfl hK hP 0 rfl rfl gX7_handHour_2.2.2.2.2.2.2.2.2.2 ?_
      refine lv_iload_n hx hb gX7_handHour_3.1 rfl (lv_at1 hl) ?_
      refine aldN hC hK hP 5 rfl (k := jp) (by omega) (Nat.le_of_ble_eq_true rfl) (v := fsm jp) rfl gX7_handHour_3.2.1 ?_
      refine lv_aload_n hx hb gX7_handHour_3.2.2.1 rfl (lv_at0 hl) ?_
      refine gf_X7_37 hC rfl hK hP 0 rfl rfl gX7_handHour_3.2.2.2.1 ?_
      refine gf_X7_97 hC rfl hK hP 6 rfl rfl gX7_handHour_3.2.2.2.2.1 ?_
      refine lv_iload_n hx hb gX7_handHour_3.2.2.2.2.2.1 rfl (lv_at2 hl) ?_
      refine lv_iconst (v := 1) hx hb gX7_handHour_3.2.2.2.2.2.2.1 (by decide) ?_
      refine pV hC hK hl hP hD (c_T_at l G bpersons (nI je) 1 10 2 bpersonsc kbpersons fbpersons (hkbpersons) (by omega) (by omega)) si_X7_60 [9, 10] sm_9_10 fm_9_10 nd_9_10 rfl rfl rfl rfl rfl (Nat.le_of_ble_eq_true rfl) rm_3_1_3 ⟨by first | exact Nat.le_of_ble_eq_true rfl | exact Nat.zero_le _, by first | exact Nat.le_of_ble_eq_true rfl | exact Nat.zero_le _⟩ gX7_handHour_3.2.2.2.2.2.2.2.1 (fun r3392 hr3392 => ?_)
      refine eqi (x1 := fbpersons (je * 2 + 1)) (hr3392.trans (tatq (by omega) (by omega) (by decide) (by decide) rfl)) ?_
      refine lv_iadd hx hb gX7_handHour_3.2.2.2.2.2.2.2.2.1 ?_
      refine lv_goto (tgt := 78) hx hb gX7_handHour_3.2.2.2.2.2.2.2.2.2 (by decide) ?_
      refine toQ hQ0 ?_
      exact RP (v := (fsm jp) + (fbpersons (je * 2 + 1))) hC (Or.inr ⟨rfl, c_23_3391⟩) rfl gX7_handHour_4.2.2.2.2
    · refine lv_iload_n hx hb gX7_handHour_1.2.2.2.2.1 rfl (lv_at3 hl) ?_
      refine lv_if_eq (tgt := 39) hx hb gX7_handHour_1.2.2.2.2.2.1 (by decide) (fun c9 => absurd c9 (by decide)) (fun _ => ?_)
      refine lv_aload_n hx hb gX7_handHour_1.2.2.2.2.2.2.1 rfl (lv_at0 hl) ?_
      refine gf_X7_28 hC rfl hK hP 0 rfl rfl gX7_handHour_1.2.2.2.2.2.2.2.1 ?_
      refine lv_iload_n hx hb gX7_handHour_1.2.2.2.2.2.2.2.2.1 rfl (lv_at1 hl) ?_
      refine aldN hC hK hP 3 rfl (k := jp) (by omega) (Nat.le_of_ble_eq_true rfl) (v := fmm jp) rfl gX7_handHour_1.2.2.2.2.2.2.2.2.2 ?_
      refine lv_goto (tgt := 45) hx hb gX7_handHour_2.1 (by decide) ?_
      refine toQ hQ0 ?_
      exact RP (v := fmm jp) hC (Or.inl ⟨rfl, c_23_3391⟩) rfl gX7_handHour_2.2.2.2.2.2.1
  · exact absurd hsn a3388
def K_c_boundX (l : Launch) (G : GG) (K9 : Nat → Nat → Int → Prop) (V9 : Nat → Prop) (h0 : Nat) (je : Nat) (jp : Nat) (bb : Nat) (sg : Nat) (tf : Int32) (tt9 : Int32) (tl : Int32) (tbv : Int32) (clk : Nat) (fi : Nat) (la : Nat) (ml : Nat) (mm : Nat) (sl : Nat) (sm : Nat) (scl : Int32) (fla : Nat → Int32) (fml : Nat → Int32) (fmm : Nat → Int32) (fsl : Nat → Int32) (fsm : Nat → Int32) (bpersons : Nat) (bpapers : Nat) (bstamps : Nat) (bversions : Nat) (blines : Nat) (bsteps : Nat) (bsayings : Nat) (bfindings : Nat) (bwarnings : Nat) (bquestions : Nat) (td : Int32) (vd : Int32) (vl : Int32) (gp : Int32) (bpapersc : Nat) (kbpapers : Nat) (fbpapers : Nat → Int32) (bpersonsc : Nat) (kbpersons : Nat) (fbpersons : Nat → Int32) (fbstamps : Nat → Int32) (kbstamps : Nat) : Prop := MV l G yX9_bound cX9_bound 4 4 0 0 [.ref h0, .int (nI je), .int (nI jp)] [(h0, oX9 bb sg tf tt9 tl tbv), (sg, oX7 bb clk fi la ml mm sl sm scl), (la, iA G 12 fla), (ml, iA G 12 fml), (mm, iA G 12 fmm), (sl, iA G 12 fsl), (sm, iA G 12 fsm), (bb, oX0 bpersons bpapers bstamps bversions blines bsteps bsayings bfindings bwarnings bquestions td vd vl gp), (bpapers, oX8 12 6 bpapersc (nI kbpapers)), (bpapersc, iA G 72 fbpapers), (bpersons, oX8 10 2 bpersonsc (nI kbpersons)), (bpersonsc, iA G 20 fbpersons)] (fun u : Int32 × Int32 => HIQ K9 fbstamps V9 (fbpapers (jp * 6 + 0)) (fbpapers (jp * 6 + 1)) (fbpersons (je * 2 + 1)) kbstamps jp je u.1 u.2) (fun u : Int32 × Int32 => [(h0, oX9 bb sg u.1 u.2 tl tbv), (sg, oX7 bb clk fi la ml mm sl sm scl), (la, iA G 12 fla), (ml, iA G 12 fml), (mm, iA G 12 fmm), (sl, iA G 12 fsl), (sm, iA G 12 fsm), (bb, oX0 bpersons bpapers bstamps bversions blines bsteps bsayings bfindings bwarnings bquestions td vd vl gp), (bpapers, oX8 12 6 bpapersc (nI kbpapers)), (bpapersc, iA G 72 fbpapers), (bpersons, oX8 10 2 bpersonsc (nI kbpersons)), (bpersonsc, iA G 20 fbpersons)])
set_option maxHeartbeats 4000000 in
set_option maxRecDepth 100000 in
theorem c_boundX (l : Launch) (G : GG) (K9 : Nat → Nat → Int → Prop) (V9 : Nat → Prop) (h0 : Nat) (je : Nat) (jp : Nat) (bb : Nat) (sg : Nat) (tf : Int32) (tt9 : Int32) (tl : Int32) (tbv : Int32) (clk : Nat) (fi : Nat) (la : Nat) (ml : Nat) (mm : Nat) (sl : Nat) (sm : Nat) (scl : Int32) (fla : Nat → Int32) (fml : Nat → Int32) (fmm : Nat → Int32) (fsl : Nat → Int32) (fsm : Nat → Int32) (bpersons : Nat) (bpapers : Nat) (bstamps : Nat) (bversions : Nat) (blines : Nat) (bsteps : Nat) (bsayings : Nat) (bfindings : Nat) (bwarnings : Nat) (bquestions : Nat) (td : Int32) (vd : Int32) (vl : Int32) (gp : Int32) (bpapersc : Nat) (kbpapers : Nat) (fbpapers : Nat → Int32) (bpersonsc : Nat) (kbpersons : Nat) (fbpersons : Nat → Int32) (fbstamps : Nat → Int32) (kbstamps : Nat) (hkbpapers : kbpapers ≤ 12) (hkbpersons : kbpersons ≤ 10) (hsg : SGQ K9 fbstamps V9 kbstamps scl fla fml fmm fsl fsm) (hjp : jp < kbpapers) (hje : je < kbpersons) : K_c_boundX l G K9 V9 h0 je jp bb sg tf tt9 tl tbv clk fi la ml mm sl sm scl fla fml fmm fsl fsm bpersons bpapers bstamps bversions blines bsteps bsayings bfindings bwarnings bquestions td vd vl gp bpapersc kbpapers fbpapers bpersonsc kbpersons fbpersons fbstamps kbstamps := by
  refine MV.start (by decide +kernel) (Nat.le_of_ble_eq_true rfl) ?_
  intro p e s m below meth c A ls hC hK hP hD hS hA hl
  refine absQ (fun Q0 hQ0 => ?_)
  have hl : lv_has ls 4 [(0, .ref h0), (1, .int (nI je)), (2, .int (nI jp))] := hl
  refine Kan8 hC (fun hx hb hr hml hB hown hlocks hnm => ?_)
  refine lv_aload_n hx hb gX9_bound_0.1 rfl (lv_at0 hl) ?_
  refine gf_X9_15 hC rfl hK hP 0 rfl rfl gX9_bound_0.2.1 ?_
  refine lv_iload_n hx hb gX9_bound_0.2.2.1 rfl (lv_at2 hl) ?_
  refine lv_iload_n hx hb gX9_bound_0.2.2.2.1 rfl (lv_at1 hl) ?_
  refine pV hC hK hl hP hD (c_isInHandX l G sg jp je bb clk fi la ml mm sl sm scl fla bpersons bpapers bstamps bversions blines bsteps bsayings bfindings bwarnings bquestions td vd vl gp bpapersc kbpapers fbpapers (hkbpapers) (hjp) (by omega)) si_X9_32 [1, 2, 7, 8, 9] sm_1_2_7_8_9 fm_1_2_7_8_9 nd_1_2_7_8_9 rfl rfl rfl rfl rfl (Nat.le_of_ble_eq_true rfl) rm_4_3_3 ⟨by first | exact Nat.le_of_ble_eq_true rfl | exact Nat.zero_le _, by first | exact Nat.le_of_ble_eq_true rfl | exact Nat.zero_le _⟩ gX9_bound_0.2.2.2.2.1 (Kors (Keqa fun a3395 => ?_) (Keqa fun a3395 => ?_))
  · refine lv_istore_n (lv' := [(3, .int 1), (0, .ref h0), (1, .int (nI je)), (2, .int (nI jp))]) hx hb gX9_bound_0.2.2.2.2.2.1 rfl hl (by decide) rfl (fun ls hl => ?_)
    refine lv_aload_n hx hb gX9_bound_0.2.2.2.2.2.2.1 rfl (lv_at1 hl) ?_
    refine lv_iload_n hx hb gX9_bound_0.2.2.2.2.2.2.2.1 rfl (lv_at0 hl) ?_
    refine lv_if_eq (tgt := 28) hx hb gX9_bound_0.2.2.2.2.2.2.2.2.1 (by decide) (fun c9 => absurd c9 (by decide)) (fun _ => ?_)
    refine lv_aload_n hx hb gX9_bound_0.2.2.2.2.2.2.2.2.2 rfl (lv_at1 hl) ?_
    refine gf_X9_15 hC rfl hK hP 0 rfl rfl gX9_bound_1.1 ?_
    refine lv_iload_n hx hb gX9_bound_1.2.1 rfl (lv_at3 hl) ?_
    refine lv_iload_n hx hb gX9_bound_1.2.2.1 rfl (lv_at2 hl) ?_
    refine lv_iconst (v := 0) hx hb gX9_bound_1.2.2.2.1 (by decide) ?_
    refine pV hC hK hl hP hD (c_handHour0X l G sg jp je bb clk fi la ml mm sl sm scl fla fml fmm fsl fsm bpersons bpapers bstamps bversions blines bsteps bsayings bfindings bwarnings bquestions td vd vl gp bpapersc kbpapers fbpapers bpersonsc kbpersons fbpersons (hkbpapers) (hkbpersons) (a3395.1) (hjp) (hje)) si_X9_38 [1, 2, 3, 4, 5, 6, 7, 8, 9, 10, 11] sm_1_2_3_4_5_6_7_8_9_10_11 fm_1_2_3_4_5_6_7_8_9_10_11 nd_1_2_3_4_5_6_7_8_9_10_11 rfl rfl rfl rfl rfl (Nat.le_of_ble_eq_true rfl) rm_4_3_4 ⟨by first | exact Nat.le_of_ble_eq_true rfl | exact Nat.zero_le _, by first | exact Nat.le_of_ble_eq_true rfl | exact Nat.zero_le _⟩ gX9_bound_1.2.2.2.2.1 (Kors (Keqa fun a3397 => ?_) (Keqa fun a3397 => ?_))
    · refine lv_goto (tgt := 29) hx hb gX9_bound_1.2.2.2.2.2.1 (by decide) ?_
      refine pf_X9_19 hC rfl hK hP hD hS 0 (ws' := [(h0, oX9 bb sg (fml jp) tt9 tl tbv), (sg, oX7 bb clk fi la ml mm sl sm scl), (la, iA G 12 fla), (ml, iA G 12 fml), (mm, iA G 12 fmm), (sl, iA G 12 fsl), (sm, iA G 12 fsm), (bb, oX0 bpersons bpapers bstamps bversions blines bsteps bsayings bfindings bwarnings bquestions td vd vl gp), (bpapers, oX8 12 6 bpapersc (nI kbpapers)), (bpapersc, iA G 72 fbpapers), (bpersons, oX8 10 2 bpersonsc (nI kbpersons)), (bpersonsc, iA G 20 fbpersons)]) rfl (Nat.le_of_ble_eq_true rfl) rfl rfl rfl gX9_bound_1.2.2.2.2.2.2.2.1 (fun H locs hP hD hS => ?_)
      refine lv_aload_n hx hb gX9_bound_1.2.2.2.2.2.2.2.2.1 rfl (lv_at1 hl) ?_
      refine lv_iload_n hx hb gX9_bound_1.2.2.2.2.2.2.2.2.2 rfl (lv_at0 hl) ?_
      refine lv_if_eq (tgt := 50) hx hb gX9_bound_2.1 (by decide) (fun c9 => absurd c9 (by decide)) (fun _ => ?_)
      refine lv_aload_n hx hb gX9_bound_2.2.1 rfl (lv_at1 hl) ?_
      refine gf_X9_15 hC rfl hK hP 0 rfl rfl gX9_bound_2.2.2.1 ?_
      refine lv_iload_n hx hb gX9_bound_2.2.2.2.1 rfl (lv_at3 hl) ?_
      refine lv_iload_n hx hb gX9_bound_2.2.2.2.2.1 rfl (lv_at2 hl) ?_
      refine lv_iconst (v := 1) hx hb gX9_bound_2.2.2.2.2.2.1 (by decide) ?_
      refine pV hC hK hl hP hD (c_handHour1X l G sg jp je bb clk fi la ml mm sl sm scl fla fml fmm fsl fsm bpersons bpapers bstamps bversions blines bsteps bsayings bfindings bwarnings bquestions td vd vl gp bpapersc kbpapers fbpapers bpersonsc kbpersons fbpersons (hkbpapers) (hkbpersons) (a3395.1) (hjp) (hje)) si_X9_38 [1, 2, 3, 4, 5, 6, 7, 8, 9, 10, 11] sm_1_2_3_4_5_6_7_8_9_10_11 fm_1_2_3_4_5_6_7_8_9_10_11 nd_1_2_3_4_5_6_7_8_9_10_11 rfl rfl rfl rfl rfl (Nat.le_of_ble_eq_true rfl) rm_4_3_4 ⟨by first | exact Nat.le_of_ble_eq_true rfl | exact Nat.zero_le _, by first | exact Nat.le_of_ble_eq_true rfl | exact Nat.zero_le _⟩ gX9_bound_2.2.2.2.2.2.2.1 (Kors (Keqa fun a3399 => ?_) (Keqa fun a3399 => ?_))
      · refine lv_goto (tgt := 53) hx hb gX9_bound_2.2.2.2.2.2.2.2.1 (by decide) ?_
        refine pf_X9_23 hC rfl hK hP hD hS 0 (ws' := [(h0, oX9 bb sg (fml jp) (fmm jp) tl tbv), (sg, oX7 bb clk fi la ml mm sl sm scl), (la, iA G 12 fla), (ml, iA G 12 fml), (mm, iA G 12 fmm), (sl, iA G 12 fsl), (sm, iA G 12 fsm), (bb, oX0 bpersons bpapers bstamps bversions blines bsteps bsayings bfindings bwarnings bquestions td vd vl gp), (bpapers, oX8 12 6 bpapersc (nI kbpapers)), (bpapersc, iA G 72 fbpapers), (bpersons, oX8 10 2 bpersonsc (nI kbpersons)), (bpersonsc, iA G 20 fbpersons)]) rfl (Nat.le_of_ble_eq_true rfl) rfl rfl rfl gX9_bound_2.2.2.2.2.2.2.2.2.2 (fun H locs hP hD hS => ?_)
        refine toQ hQ0 ?_
        exact RV hC hP hD hS [0, 1, 2, 3, 4, 5, 6, 7, 8, 9, 10, 11] ((fml jp), (fmm jp)) rfl rfl (by decide) (Or.inl (INQ.made hsg (by omega) a3395.1 a3399)) gX9_bound_3
      · exact absurd a3397 a3399
    · refine lv_goto (tgt := 29) hx hb gX9_bound_1.2.2.2.2.2.1 (by decide) ?_
      refine pf_X9_19 hC rfl hK hP hD hS 0 (ws' := [(h0, oX9 bb sg (fsl jp) tt9 tl tbv), (sg, oX7 bb clk fi la ml mm sl sm scl), (la, iA G 12 fla), (ml, iA G 12 fml), (mm, iA G 12 fmm), (sl, iA G 12 fsl), (sm, iA G 12 fsm), (bb, oX0 bpersons bpapers bstamps bversions blines bsteps bsayings bfindings bwarnings bquestions td vd vl gp), (bpapers, oX8 12 6 bpapersc (nI kbpapers)), (bpapersc, iA G 72 fbpapers), (bpersons, oX8 10 2 bpersonsc (nI kbpersons)), (bpersonsc, iA G 20 fbpersons)]) rfl (Nat.le_of_ble_eq_true rfl) rfl rfl rfl gX9_bound_1.2.2.2.2.2.2.2.1 (fun H locs hP hD hS => ?_)
      refine lv_aload_n hx hb gX9_bound_1.2.2.2.2.2.2.2.2.1 rfl (lv_at1 hl) ?_
      refine lv_iload_n hx hb gX9_bound_1.2.2.2.2.2.2.2.2.2 rfl (lv_at0 hl) ?_
      refine lv_if_eq (tgt := 50) hx hb gX9_bound_2.1 (by decide) (fun c9 => absurd c9 (by decide)) (fun _ => ?_)
      refine lv_aload_n hx hb gX9_bound_2.2.1 rfl (lv_at1 hl) ?_
      refine gf_X9_15 hC rfl hK hP 0 rfl rfl gX9_bound_2.2.2.1 ?_
      refine lv_iload_n hx hb gX9_bound_2.2.2.2.1 rfl (lv_at3 hl) ?_
      refine lv_iload_n hx hb gX9_bound_2.2.2.2.2.1 rfl (lv_at2 hl) ?_
      refine lv_iconst (v := 1) hx hb gX9_bound_2.2.2.2.2.2.1 (by decide) ?_
      refine pV hC hK hl hP hD (c_handHour1X l G sg jp je bb clk fi la ml mm sl sm scl fla fml fmm fsl fsm bpersons bpapers bstamps bversions blines bsteps bsayings bfindings bwarnings bquestions td vd vl gp bpapersc kbpapers fbpapers bpersonsc kbpersons fbpersons (hkbpapers) (hkbpersons) (a3395.1) (hjp) (hje)) si_X9_38 [1, 2, 3, 4, 5, 6, 7, 8, 9, 10, 11] sm_1_2_3_4_5_6_7_8_9_10_11 fm_1_2_3_4_5_6_7_8_9_10_11 nd_1_2_3_4_5_6_7_8_9_10_11 rfl rfl rfl rfl rfl (Nat.le_of_ble_eq_true rfl) rm_4_3_4 ⟨by first | exact Nat.le_of_ble_eq_true rfl | exact Nat.zero_le _, by first | exact Nat.le_of_ble_eq_true rfl | exact Nat.zero_le _⟩ gX9_bound_2.2.2.2.2.2.2.1 (Kors (Keqa fun a3401 => ?_) (Keqa fun a3401 => ?_))
      · exact absurd a3401 a3397
      · refine lv_goto (tgt := 53) hx hb gX9_bound_2.2.2.2.2.2.2.2.1 (by decide) ?_
        refine pf_X9_23 hC rfl hK hP hD hS 0 (ws' := [(h0, oX9 bb sg (fsl jp) (fsm jp + fbpersons (je * 2 + 1)) tl tbv), (sg, oX7 bb clk fi la ml mm sl sm scl), (la, iA G 12 fla), (ml, iA G 12 fml), (mm, iA G 12 fmm), (sl, iA G 12 fsl), (sm, iA G 12 fsm), (bb, oX0 bpersons bpapers bstamps bversions blines bsteps bsayings bfindings bwarnings bquestions td vd vl gp), (bpapers, oX8 12 6 bpapersc (nI kbpapers)), (bpapersc, iA G 72 fbpapers), (bpersons, oX8 10 2 bpersonsc (nI kbpersons)), (bpersonsc, iA G 20 fbpersons)]) rfl (Nat.le_of_ble_eq_true rfl) rfl rfl rfl gX9_bound_2.2.2.2.2.2.2.2.2.2 (fun H locs hP hD hS => ?_)
        refine toQ hQ0 ?_
        exact RV hC hP hD hS [0, 1, 2, 3, 4, 5, 6, 7, 8, 9, 10, 11] ((fsl jp), (fsm jp + fbpersons (je * 2 + 1))) rfl rfl (by decide) (Or.inl (INQ.sent hsg (by omega) a3395.1 a3401 (a3395.2.resolve_left a3401))) gX9_bound_3
  · refine lv_istore_n (lv' := [(3, .int 0), (0, .ref h0), (1, .int (nI je)), (2, .int (nI jp))]) hx hb gX9_bound_0.2.2.2.2.2.1 rfl hl (by decide) rfl (fun ls hl => ?_)
    refine lv_aload_n hx hb gX9_bound_0.2.2.2.2.2.2.1 rfl (lv_at1 hl) ?_
    refine lv_iload_n hx hb gX9_bound_0.2.2.2.2.2.2.2.1 rfl (lv_at0 hl) ?_
    refine lv_if_eq (tgt := 28) hx hb gX9_bound_0.2.2.2.2.2.2.2.2.1 (by decide) (fun _ => ?_) (fun c9 => absurd (by decide) c9)
    refine lv_iconst (v := 0) hx hb gX9_bound_1.2.2.2.2.2.2.1 (by decide) ?_
    refine pf_X9_19 hC rfl hK hP hD hS 0 (ws' := [(h0, oX9 bb sg 0 tt9 tl tbv), (sg, oX7 bb clk fi la ml mm sl sm scl), (la, iA G 12 fla), (ml, iA G 12 fml), (mm, iA G 12 fmm), (sl, iA G 12 fsl), (sm, iA G 12 fsm), (bb, oX0 bpersons bpapers bstamps bversions blines bsteps bsayings bfindings bwarnings bquestions td vd vl gp), (bpapers, oX8 12 6 bpapersc (nI kbpapers)), (bpapersc, iA G 72 fbpapers), (bpersons, oX8 10 2 bpersonsc (nI kbpersons)), (bpersonsc, iA G 20 fbpersons)]) rfl (Nat.le_of_ble_eq_true rfl) rfl rfl rfl gX9_bound_1.2.2.2.2.2.2.2.1 (fun H locs hP hD hS => ?_)
    refine lv_aload_n hx hb gX9_bound_1.2.2.2.2.2.2.2.2.1 rfl (lv_at1 hl) ?_
    refine lv_iload_n hx hb gX9_bound_1.2.2.2.2.2.2.2.2.2 rfl (lv_at0 hl) ?_
    refine lv_if_eq (tgt := 50) hx hb gX9_bound_2.1 (by decide) (fun _ => ?_) (fun c9 => absurd (by decide) c9)
    refine lv_sipush (v := 1000) hx hb gX9_bound_2.2.2.2.2.2.2.2.2.1 (by decide) ?_
    refine pf_X9_23 hC rfl hK hP hD hS 0 (ws' := [(h0, oX9 bb sg 0 1000 tl tbv), (sg, oX7 bb clk fi la ml mm sl sm scl), (la, iA G 12 fla), (ml, iA G 12 fml), (mm, iA G 12 fmm), (sl, iA G 12 fsl), (sm, iA G 12 fsm), (bb, oX0 bpersons bpapers bstamps bversions blines bsteps bsayings bfindings bwarnings bquestions td vd vl gp), (bpapers, oX8 12 6 bpapersc (nI kbpapers)), (bpapersc, iA G 72 fbpapers), (bpersons, oX8 10 2 bpersonsc (nI kbpersons)), (bpersonsc, iA G 20 fbpersons)]) rfl (Nat.le_of_ble_eq_true rfl) rfl rfl rfl gX9_bound_2.2.2.2.2.2.2.2.2.2 (fun H locs hP hD hS => ?_)
    refine toQ hQ0 ?_
    exact RV hC hP hD hS [0, 1, 2, 3, 4, 5, 6, 7, 8, 9, 10, 11] (0, 1000) rfl rfl (by decide) (Or.inr ⟨NIQ.of hsg (by omega) a3395, rfl, rfl⟩) gX9_bound_3
def K_c_impOnesX (l : Launch) (G : GG) (K9 : Nat → Nat → Int → Prop) (V9 : Nat → Prop) (h0 : Nat) (bb : Nat) (sg : Nat) (tf : Int32) (tt9 : Int32) (tl : Int32) (tbv : Int32) (clk : Nat) (fi : Nat) (la : Nat) (ml : Nat) (mm : Nat) (sl : Nat) (sm : Nat) (scl : Int32) (fla : Nat → Int32) (fml : Nat → Int32) (fmm : Nat → Int32) (fsl : Nat → Int32) (fsm : Nat → Int32) (bpersons : Nat) (bpapers : Nat) (bstamps : Nat) (bversions : Nat) (blines : Nat) (bsteps : Nat) (bsayings : Nat) (bfindings : Nat) (bwarnings : Nat) (bquestions : Nat) (td : Int32) (vd : Int32) (vl : Int32) (gp : Int32) (bpapersc : Nat) (kbpapers : Nat) (fbpapers : Nat → Int32) (bpersonsc : Nat) (kbpersons : Nat) (fbpersons : Nat → Int32) (bsayingsc : Nat) (kbsayings : Nat) (fbsayings : Nat → Int32) (fbstamps : Nat → Int32) (kbstamps : Nat) : Prop := MI l G yX9_impossibleOnes cX9_impossibleOnes 6 (some .int) 6 0 0 [.ref h0, .int (IVW fbpapers td vd vl kbpapers)] [(h0, oX9 bb sg tf tt9 tl tbv), (sg, oX7 bb clk fi la ml mm sl sm scl), (la, iA G 12 fla), (ml, iA G 12 fml), (mm, iA G 12 fmm), (sl, iA G 12 fsl), (sm, iA G 12 fsm), (bb, oX0 bpersons bpapers bstamps bversions blines bsteps bsayings bfindings bwarnings bquestions td vd vl gp), (bpapers, oX8 12 6 bpapersc (nI kbpapers)), (bpapersc, iA G 72 fbpapers), (bpersons, oX8 10 2 bpersonsc (nI kbpersons)), (bpersonsc, iA G 20 fbpersons), (bsayings, oX8 16 8 bsayingsc (nI kbsayings)), (bsayingsc, iA G 128 fbsayings)] (fun (r : Int32) (u : Int32 × Int32) => (r = (IMB (fun s9 => CSQ fbsayings fbpapers td vd vl s9 ∧ IMS fbsayings (QSF K9 fbstamps V9 fbpapers fbpersons fbsayings kbstamps) s9) kbsayings))) (fun u : Int32 × Int32 => [(h0, oX9 bb sg u.1 u.2 tl tbv), (sg, oX7 bb clk fi la ml mm sl sm scl), (la, iA G 12 fla), (ml, iA G 12 fml), (mm, iA G 12 fmm), (sl, iA G 12 fsl), (sm, iA G 12 fsm), (bb, oX0 bpersons bpapers bstamps bversions blines bsteps bsayings bfindings bwarnings bquestions td vd vl gp), (bpapers, oX8 12 6 bpapersc (nI kbpapers)), (bpapersc, iA G 72 fbpapers), (bpersons, oX8 10 2 bpersonsc (nI kbpersons)), (bpersonsc, iA G 20 fbpersons), (bsayings, oX8 16 8 bsayingsc (nI kbsayings)), (bsayingsc, iA G 128 fbsayings)])
set_option maxHeartbeats 4000000 in
set_option maxRecDepth 100000 in
theorem c_impOnesX (l : Launch) (G : GG) (K9 : Nat → Nat → Int → Prop) (V9 : Nat → Prop) (h0 : Nat) (bb : Nat) (sg : Nat) (tf : Int32) (tt9 : Int32) (tl : Int32) (tbv : Int32) (clk : Nat) (fi : Nat) (la : Nat) (ml : Nat) (mm : Nat) (sl : Nat) (sm : Nat) (scl : Int32) (fla : Nat → Int32) (fml : Nat → Int32) (fmm : Nat → Int32) (fsl : Nat → Int32) (fsm : Nat → Int32) (bpersons : Nat) (bpapers : Nat) (bstamps : Nat) (bversions : Nat) (blines : Nat) (bsteps : Nat) (bsayings : Nat) (bfindings : Nat) (bwarnings : Nat) (bquestions : Nat) (td : Int32) (vd : Int32) (vl : Int32) (gp : Int32) (bpapersc : Nat) (kbpapers : Nat) (fbpapers : Nat → Int32) (bpersonsc : Nat) (kbpersons : Nat) (fbpersons : Nat → Int32) (bsayingsc : Nat) (kbsayings : Nat) (fbsayings : Nat → Int32) (fbstamps : Nat → Int32) (kbstamps : Nat) (hkbpapers : kbpapers ≤ 12) (hkbpersons : kbpersons ≤ 10) (hkbsayings : kbsayings ≤ 16) (hSP : SPI fbsayings kbsayings kbpapers) (hSO : SPO fbsayings kbsayings kbpersons) (hsg : SGQ K9 fbstamps V9 kbstamps scl fla fml fmm fsl fsm) (hSV : SVL fbstamps kbstamps) : K_c_impOnesX l G K9 V9 h0 bb sg tf tt9 tl tbv clk fi la ml mm sl sm scl fla fml fmm fsl fsm bpersons bpapers bstamps bversions blines bsteps bsayings bfindings bwarnings bquestions td vd vl gp bpapersc kbpapers fbpapers bpersonsc kbpersons fbpersons bsayingsc kbsayings fbsayings fbstamps kbstamps := by
  refine MI.start (by decide +kernel) (Nat.le_of_ble_eq_true rfl) ?_
  intro p e s m below meth c A ls hC hK hP hD hS hA hl
  refine absQ (fun Q0 hQ0 => ?_)
  have hl : lv_has ls 6 [(0, .ref h0), (1, .int (IVW fbpapers td vd vl kbpapers))] := hl
  refine Kan8 hC (fun hx hb hr hml hB hown hlocks hnm => ?_)
  refine lv_iconst (v := 0) hx hb gX9_impossibleOnes_0.1 (by decide) ?_
  refine lv_istore_n (lv' := [(2, .int 0), (0, .ref h0), (1, .int (IVW fbpapers td vd vl kbpapers))]) hx hb gX9_impossibleOnes_0.2.1 rfl hl (by decide) rfl (fun ls hl => ?_)
  refine lv_iconst (v := 0) hx hb gX9_impossibleOnes_0.2.2.1 (by decide) ?_
  refine lv_istore_n (lv' := [(3, .int 0), (2, .int 0), (0, .ref h0), (1, .int (IVW fbpapers td vd vl kbpapers))]) hx hb gX9_impossibleOnes_0.2.2.2.1 rfl hl (by decide) rfl (fun ls hl => ?_)
  have keyP : ∀ (nP kP : Nat) (bi : Int32) (wf : Int32) (wt : Int32) (H : Heap) (locs : List Loc) (ls : Array Slot), kP + nP = kbsayings → (bi = IMB (fun s9 => CSQ fbsayings fbpapers td vd vl s9 ∧ IMS fbsayings (QSF K9 fbstamps V9 fbpapers fbpersons fbsayings kbstamps) s9) kP) → va_PD G A [(h0, oX9 bb sg wf wt tl tbv), (sg, oX7 bb clk fi la ml mm sl sm scl), (la, iA G 12 fla), (ml, iA G 12 fml), (mm, iA G 12 fmm), (sl, iA G 12 fsl), (sm, iA G 12 fsm), (bb, oX0 bpersons bpapers bstamps bversions blines bsteps bsayings bfindings bwarnings bquestions td vd vl gp), (bpapers, oX8 12 6 bpapersc (nI kbpapers)), (bpapersc, iA G 72 fbpapers), (bpersons, oX8 10 2 bpersonsc (nI kbpersons)), (bpersonsc, iA G 20 fbpersons), (bsayings, oX8 16 8 bsayingsc (nI kbsayings)), (bsayingsc, iA G 128 fbsayings)] H → va_S A s.heap H locs → lv_has ls 6 [(3, .int (nI kP)), (2, .int bi), (0, .ref h0), (1, .int (IVW fbpapers td vd vl kbpapers))] → W p l e (RM 6 0 0) s m ([.ref h0, .int (IVW fbpapers td vd vl kbpapers)] : List Value).toArray below meth c H locs 0 0 Q0 (F0 m 4 ls []) := by
    intro nP
    induction nP with
    | zero =>
      intro kP bi wf wt H locs ls hkP hbi hPD hS hl
      refine Kan2 hPD (fun hP hD => ?_)
      obtain rfl : kbsayings = kP := by omega
      have hl : lv_has ls 6 [(3, .int (nI kbsayings)), (2, .int bi), (0, .ref h0), (1, .int (IVW fbpapers td vd vl kbpapers))] := hl
      refine lv_iload_n hx hb gX9_impossibleOnes_0.2.2.2.2.1 rfl (lv_at0 hl) ?_
      refine lv_aload_n hx hb gX9_impossibleOnes_0.2.2.2.2.2.1 rfl (lv_at2 hl) ?_
      refine gf_X9_9 hC rfl hK hP 0 rfl rfl gX9_impossibleOnes_0.2.2.2.2.2.2.1 ?_
      refine gf_X9_42 hC rfl hK hP 7 rfl rfl gX9_impossibleOnes_0.2.2.2.2.2.2.2.1 ?_
      refine pV hC hK hl hP hD (c_T_count l G bsayings 16 8 bsayingsc kbsayings) si_X9_65 [12] sm_12 fm_12 nd_12 rfl rfl rfl rfl rfl (Nat.le_of_ble_eq_true rfl) rm_6_1_1 ⟨by first | exact Nat.le_of_ble_eq_true rfl | exact Nat.zero_le _, by first | exact Nat.le_of_ble_eq_true rfl | exact Nat.zero_le _⟩ gX9_impossibleOnes_0.2.2.2.2.2.2.2.2.1 (Keqr ?_)
      refine lv_icmp_ge (tgt := 141) hx hb gX9_impossibleOnes_0.2.2.2.2.2.2.2.2.2 (by decide) (fun _ => ?_) (fun c9 => absurd (Int32.le_refl _) c9)
      refine lv_iload_n hx hb gX9_impossibleOnes_7.2.2.1 rfl (lv_at1 hl) ?_
      refine toQ hQ0 ?_
      exact RI (v := bi) hC hP hD hS [0, 1, 2, 3, 4, 5, 6, 7, 8, 9, 10, 11, 12, 13] (wf, wt) rfl rfl (by decide) (hbi) rfl gX9_impossibleOnes_7.2.2.2
    | succ nP ihP =>
      intro kP bi wf wt H locs ls hkP hbi hPD hS hl
      refine Kan2 hPD (fun hP hD => ?_)
      refine lv_iload_n hx hb gX9_impossibleOnes_0.2.2.2.2.1 rfl (lv_at0 hl) ?_
      refine lv_aload_n hx hb gX9_impossibleOnes_0.2.2.2.2.2.1 rfl (lv_at2 hl) ?_
      refine gf_X9_9 hC rfl hK hP 0 rfl rfl gX9_impossibleOnes_0.2.2.2.2.2.2.1 ?_
      refine gf_X9_42 hC rfl hK hP 7 rfl rfl gX9_impossibleOnes_0.2.2.2.2.2.2.2.1 ?_
      refine pV hC hK hl hP hD (c_T_count l G bsayings 16 8 bsayingsc kbsayings) si_X9_65 [12] sm_12 fm_12 nd_12 rfl rfl rfl rfl rfl (Nat.le_of_ble_eq_true rfl) rm_6_1_1 ⟨by first | exact Nat.le_of_ble_eq_true rfl | exact Nat.zero_le _, by first | exact Nat.le_of_ble_eq_true rfl | exact Nat.zero_le _⟩ gX9_impossibleOnes_0.2.2.2.2.2.2.2.2.1 (Keqr ?_)
      refine lv_icmp_ge (tgt := 141) hx hb gX9_impossibleOnes_0.2.2.2.2.2.2.2.2.2 (by decide) (fun c9 => absurd c9 (nI_ge (a := kP) (b := kbsayings) (by omega) (by omega))) (fun _ => ?_)
      refine lv_aload_n hx hb gX9_impossibleOnes_1.1 rfl (lv_at2 hl) ?_
      refine gf_X9_9 hC rfl hK hP 0 rfl rfl gX9_impossibleOnes_1.2.1 ?_
      refine lv_iload_n hx hb gX9_impossibleOnes_1.2.2.1 rfl (lv_at0 hl) ?_
      refine lv_iload_n hx hb gX9_impossibleOnes_1.2.2.2.1 rfl (lv_at3 hl) ?_
      refine pV hC hK hl hP hD (c_countsX l G bb kP bpersons bpapers bstamps bversions blines bsteps bsayings bfindings bwarnings bquestions td vd vl gp bsayingsc kbsayings fbsayings bpapersc kbpapers fbpapers (hkbsayings) (hkbpapers) (hSP) (by omega)) si_X9_54 [7, 12, 13, 8, 9] sm_7_12_13_8_9 fm_7_12_13_8_9 nd_7_12_13_8_9 rfl rfl rfl rfl rfl (Nat.le_of_ble_eq_true rfl) rm_6_3_3 ⟨by first | exact Nat.le_of_ble_eq_true rfl | exact Nat.zero_le _, by first | exact Nat.le_of_ble_eq_true rfl | exact Nat.zero_le _⟩ gX9_impossibleOnes_1.2.2.2.2.1 (Kors (Keqa fun a3407 => ?_) (Keqa fun a3407 => ?_))
      · refine lv_if_ne (tgt := 33) hx hb gX9_impossibleOnes_1.2.2.2.2.2.1 (by decide) (fun _ => ?_) (fun c9 => absurd c9 (by decide))
        refine lv_aload_n hx hb gX9_impossibleOnes_1.2.2.2.2.2.2.2.1 rfl (lv_at2 hl) ?_
        refine lv_aload_n hx hb gX9_impossibleOnes_1.2.2.2.2.2.2.2.2.1 rfl (lv_at2 hl) ?_
        refine gf_X9_9 hC rfl hK hP 0 rfl rfl gX9_impossibleOnes_1.2.2.2.2.2.2.2.2.2 ?_
        refine gf_X9_42 hC rfl hK hP 7 rfl rfl gX9_impossibleOnes_2.1 ?_
        refine lv_iload_n hx hb gX9_impossibleOnes_2.2.1 rfl (lv_at0 hl) ?_
        refine lv_iconst (v := 1) hx hb gX9_impossibleOnes_2.2.2.1 (by decide) ?_
        refine pV hC hK hl hP hD (c_T_at l G bsayings (nI kP) 1 16 8 bsayingsc kbsayings fbsayings (hkbsayings) (by omega) (by omega)) si_X9_48 [12, 13] sm_12_13 fm_12_13 nd_12_13 rfl rfl rfl rfl rfl (Nat.le_of_ble_eq_true rfl) rm_6_1_3 ⟨by first | exact Nat.le_of_ble_eq_true rfl | exact Nat.zero_le _, by first | exact Nat.le_of_ble_eq_true rfl | exact Nat.zero_le _⟩ gX9_impossibleOnes_2.2.2.2.1 (fun r3408 hr3408 => ?_)
        obtain ⟨jo, hjo, ejo⟩ := Hs_nat (by omega) (hSO kP (by omega)).1
        refine eqi (x1 := nI jo) ((hr3408.trans (tatq (by omega) (by omega) (by decide) (by decide) rfl)).trans ejo) ?_
        refine lv_aload_n hx hb gX9_impossibleOnes_2.2.2.2.2.1 rfl (lv_at2 hl) ?_
        refine gf_X9_9 hC rfl hK hP 0 rfl rfl gX9_impossibleOnes_2.2.2.2.2.2.1 ?_
        refine gf_X9_42 hC rfl hK hP 7 rfl rfl gX9_impossibleOnes_2.2.2.2.2.2.2.1 ?_
        refine lv_iload_n hx hb gX9_impossibleOnes_2.2.2.2.2.2.2.2.1 rfl (lv_at0 hl) ?_
        refine lv_iconst (v := 2) hx hb gX9_impossibleOnes_2.2.2.2.2.2.2.2.2.1 (by decide) ?_
        refine pV hC hK hl hP hD (c_T_at l G bsayings (nI kP) 2 16 8 bsayingsc kbsayings fbsayings (hkbsayings) (by omega) (by omega)) si_X9_48 [12, 13] sm_12_13 fm_12_13 nd_12_13 rfl rfl rfl rfl rfl (Nat.le_of_ble_eq_true rfl) rm_6_1_3 ⟨by first | exact Nat.le_of_ble_eq_true rfl | exact Nat.zero_le _, by first | exact Nat.le_of_ble_eq_true rfl | exact Nat.zero_le _⟩ gX9_impossibleOnes_2.2.2.2.2.2.2.2.2.2 (fun r3410 hr3410 => ?_)
        obtain ⟨jx, hjx, ejx⟩ := Hs_nat (by omega) (hSP kP (by omega))
        refine eqi (x1 := nI jx) ((hr3410.trans (tatq (by omega) (by omega) (by decide) (by decide) rfl)).trans ejx) ?_
        refine vV (wr := [(bsayings, oX8 16 8 bsayingsc (nI kbsayings)), (bsayingsc, iA G 128 fbsayings)]) hC hK hl hP hD hS hA (c_boundX l G K9 V9 h0 jo jx bb sg wf wt tl tbv clk fi la ml mm sl sm scl fla fml fmm fsl fsm bpersons bpapers bstamps bversions blines bsteps bsayings bfindings bwarnings bquestions td vd vl gp bpapersc kbpapers fbpapers bpersonsc kbpersons fbpersons fbstamps kbstamps (hkbpapers) (hkbpersons) (hsg) (by omega) (by omega)) si_X9_57 [0, 1, 2, 3, 4, 5, 6, 7, 8, 9, 10, 11] [12, 13] sm_0_1_2_3_4_5_6_7_8_9_10_11 fm_0_1_2_3_4_5_6_7_8_9_10_11 nd_0_1_2_3_4_5_6_7_8_9_10_11 sm_12_13 nd_12_13 dj_0_1_2_3_4_5_6_7_8_9_10_11__12_13 rfl rfl rfl rfl rfl (Nat.le_of_ble_eq_true rfl) rm_6_4_4 ⟨Nat.le_of_ble_eq_true rfl, Nat.le_of_ble_eq_true rfl⟩ gX9_impossibleOnes_3.1 (Ktu2 fun tf13414 tt13415 => ?_)
        intro H locs hr3412 hP hD hS
        try dsimp only at hr3412
        refine Kpdr (ws := [(bsayings, oX8 16 8 bsayingsc (nI kbsayings)), (bsayingsc, iA G 128 fbsayings), (h0, oX9 bb sg tf13414 tt13415 tl tbv), (sg, oX7 bb clk fi la ml mm sl sm scl), (la, iA G 12 fla), (ml, iA G 12 fml), (mm, iA G 12 fmm), (sl, iA G 12 fsl), (sm, iA G 12 fsm), (bb, oX0 bpersons bpapers bstamps bversions blines bsteps bsayings bfindings bwarnings bquestions td vd vl gp), (bpapers, oX8 12 6 bpapersc (nI kbpapers)), (bpapersc, iA G 72 fbpapers), (bpersons, oX8 10 2 bpersonsc (nI kbpersons)), (bpersonsc, iA G 20 fbpersons)]) hP hD (fun hP hD => ?_)
        have w3416 := hr3412
        refine lv_aload_n hx hb gX9_impossibleOnes_3.2.1 rfl (lv_at2 hl) ?_
        refine gf_X9_9 hC rfl hK hP 2 rfl rfl gX9_impossibleOnes_3.2.2.1 ?_
        refine gf_X9_42 hC rfl hK hP 9 rfl rfl gX9_impossibleOnes_3.2.2.2.1 ?_
        refine lv_iload_n hx hb gX9_impossibleOnes_3.2.2.2.2.1 rfl (lv_at0 hl) ?_
        refine lv_iconst (v := 3) hx hb gX9_impossibleOnes_3.2.2.2.2.2.1 (by decide) ?_
        refine pV hC hK hl hP hD (c_T_at l G bsayings (nI kP) 3 16 8 bsayingsc kbsayings fbsayings (hkbsayings) (by omega) (by omega)) si_X9_48 [0, 1] sm_0_1 fm_0_1 nd_0_1 rfl rfl rfl rfl rfl (Nat.le_of_ble_eq_true rfl) rm_6_1_3 ⟨by first | exact Nat.le_of_ble_eq_true rfl | exact Nat.zero_le _, by first | exact Nat.le_of_ble_eq_true rfl | exact Nat.zero_le _⟩ gX9_impossibleOnes_3.2.2.2.2.2.2.1 (fun r3417 hr3417 => ?_)
        refine eqi (x1 := fbsayings (kP * 8 + 3)) (hr3417.trans (tatq (by omega) (by omega) (by decide) (by decide) rfl)) ?_
        refine lv_istore (lv' := [(4, .int (fbsayings (kP * 8 + 3))), (3, .int (nI kP)), (2, .int bi), (0, .ref h0), (1, .int (IVW fbpapers td vd vl kbpapers))]) hx hb gX9_impossibleOnes_3.2.2.2.2.2.2.2.1 hl (by decide) rfl (fun ls hl => ?_)
        refine lv_aload_n hx hb gX9_impossibleOnes_3.2.2.2.2.2.2.2.2.1 rfl (lv_at3 hl) ?_
        refine gf_X9_9 hC rfl hK hP 2 rfl rfl gX9_impossibleOnes_3.2.2.2.2.2.2.2.2.2 ?_
        refine gf_X9_42 hC rfl hK hP 9 rfl rfl gX9_impossibleOnes_4.1 ?_
        refine lv_iload_n hx hb gX9_impossibleOnes_4.2.1 rfl (lv_at1 hl) ?_
        refine lv_iconst (v := 5) hx hb gX9_impossibleOnes_4.2.2.1 (by decide) ?_
        refine pV hC hK hl hP hD (c_T_at l G bsayings (nI kP) 5 16 8 bsayingsc kbsayings fbsayings (hkbsayings) (by omega) (by omega)) si_X9_48 [0, 1] sm_0_1 fm_0_1 nd_0_1 rfl rfl rfl rfl rfl (Nat.le_of_ble_eq_true rfl) rm_6_1_3 ⟨by first | exact Nat.le_of_ble_eq_true rfl | exact Nat.zero_le _, by first | exact Nat.le_of_ble_eq_true rfl | exact Nat.zero_le _⟩ gX9_impossibleOnes_4.2.2.2.1 (fun r3419 hr3419 => ?_)
        refine eqi (x1 := fbsayings (kP * 8 + 5)) (hr3419.trans (tatq (by omega) (by omega) (by decide) (by decide) rfl)) ?_
        refine lv_iconst (v := 1) hx hb gX9_impossibleOnes_4.2.2.2.2.1 (by decide) ?_
        refine lv_icmp_ne (tgt := 108) hx hb gX9_impossibleOnes_4.2.2.2.2.2.1 (by decide) (fun c_88_3421 => ?_) (fun c_88_3421 => ?_)
        · refine lv_iload hx hb gX9_impossibleOnes_5.2.2.2.2.1 (lv_at0 hl) ?_
          refine lv_aload_n hx hb gX9_impossibleOnes_5.2.2.2.2.2.1 rfl (lv_at3 hl) ?_
          refine gf_X9_23 hC rfl hK hP 2 rfl rfl gX9_impossibleOnes_5.2.2.2.2.2.2.1 ?_
          refine lv_icmp_lt (tgt := 121) hx hb gX9_impossibleOnes_5.2.2.2.2.2.2.2.1 (by decide) (fun c_114_3422 => ?_) (fun c_114_3422 => ?_)
          · refine lv_iconst (v := 0) hx hb gX9_impossibleOnes_6.1 (by decide) ?_
            refine lv_istore (lv' := [(5, .int 0), (4, .int (fbsayings (kP * 8 + 3))), (3, .int (nI kP)), (2, .int bi), (0, .ref h0), (1, .int (IVW fbpapers td vd vl kbpapers))]) hx hb gX9_impossibleOnes_6.2.1 hl (by decide) rfl (fun ls hl => ?_)
            refine lv_iload hx hb gX9_impossibleOnes_6.2.2.1 (lv_at0 hl) ?_
            refine lv_if_eq (tgt := 135) hx hb gX9_impossibleOnes_6.2.2.2.1 (by decide) (fun _ => ?_) (fun c9 => absurd (by decide) c9)
            refine lv_iinc (v := nI (kP + 1)) (lv' := [(3, .int (nI (kP + 1))), (5, .int 0), (4, .int (fbsayings (kP * 8 + 3))), (2, .int bi), (0, .ref h0), (1, .int (IVW fbpapers td vd vl kbpapers))]) hx hb gX9_impossibleOnes_7.1 hl (k := 2) rfl (nI_1 _) (by decide) rfl (fun ls hl => ?_)
            refine lv_goto (tgt := 4) hx hb gX9_impossibleOnes_7.2.1 (by decide) ?_
            refine Kpds (ws' := [(h0, oX9 bb sg tf13414 tt13415 tl tbv), (sg, oX7 bb clk fi la ml mm sl sm scl), (la, iA G 12 fla), (ml, iA G 12 fml), (mm, iA G 12 fmm), (sl, iA G 12 fsl), (sm, iA G 12 fsm), (bb, oX0 bpersons bpapers bstamps bversions blines bsteps bsayings bfindings bwarnings bquestions td vd vl gp), (bpapers, oX8 12 6 bpapersc (nI kbpapers)), (bpapersc, iA G 72 fbpapers), (bpersons, oX8 10 2 bpersonsc (nI kbpersons)), (bpersonsc, iA G 20 fbpersons), (bsayings, oX8 16 8 bsayingsc (nI kbsayings)), (bsayingsc, iA G 128 fbsayings)]) hP hD [2, 3, 4, 5, 6, 7, 8, 9, 10, 11, 12, 13, 0, 1] fm_2_3_4_5_6_7_8_9_10_11_12_13_0_1 nd_2_3_4_5_6_7_8_9_10_11_12_13_0_1 sm_2_3_4_5_6_7_8_9_10_11_12_13_0_1 (fun hP hD => ?_)
            have hq9 : QSF K9 fbstamps V9 fbpapers fbpersons fbsayings kbstamps kP _ _ := QSF.mk ejx ejo (by omega) (by omega) w3416
            have hst9 : bi = IMB (fun s9 => CSQ fbsayings fbpapers td vd vl s9 ∧ IMS fbsayings (QSF K9 fbstamps V9 fbpapers fbpersons fbsayings kbstamps) s9) (kP + 1) := IMB.n hbi (fun h9 => IMS.no hSV hq9 (fun h9 => h9.elim (fun h8 => c_88_3421 h8.1) (fun h8 => Int32.not_le.mpr c_114_3422 h8.2)) h9.2)
            exact ihP (kP + 1) bi tf13414 tt13415 _ _ _ (by omega) (by first | assumption | exact Or.inl rfl | exact Or.inr rfl | exact rfl) (And.intro hP hD) hS (lv_sub hl [0, 3, 4, 5] rfl)
          · refine lv_iconst (v := 1) hx hb gX9_impossibleOnes_5.2.2.2.2.2.2.2.2.1 (by decide) ?_
            refine lv_goto (tgt := 122) hx hb gX9_impossibleOnes_5.2.2.2.2.2.2.2.2.2 (by decide) ?_
            refine lv_istore (lv' := [(5, .int 1), (4, .int (fbsayings (kP * 8 + 3))), (3, .int (nI kP)), (2, .int bi), (0, .ref h0), (1, .int (IVW fbpapers td vd vl kbpapers))]) hx hb gX9_impossibleOnes_6.2.1 hl (by decide) rfl (fun ls hl => ?_)
            refine lv_iload hx hb gX9_impossibleOnes_6.2.2.1 (lv_at0 hl) ?_
            refine lv_if_eq (tgt := 135) hx hb gX9_impossibleOnes_6.2.2.2.1 (by decide) (fun c9 => absurd c9 (by decide)) (fun _ => ?_)
            refine lv_iload_n hx hb gX9_impossibleOnes_6.2.2.2.2.1 rfl (lv_at3 hl) ?_
            refine lv_iconst (v := 1) hx hb gX9_impossibleOnes_6.2.2.2.2.2.1 (by decide) ?_
            refine lv_iload_n hx hb gX9_impossibleOnes_6.2.2.2.2.2.2.1 rfl (lv_at2 hl) ?_
            refine lv_ishl hx hb gX9_impossibleOnes_6.2.2.2.2.2.2.2.1 ?_
            refine lv_ior hx hb gX9_impossibleOnes_6.2.2.2.2.2.2.2.2.1 ?_
            refine lv_istore_n (lv' := [(2, .int (bi ||| (1 <<< ((nI kP) &&& 31)))), (5, .int 1), (4, .int (fbsayings (kP * 8 + 3))), (3, .int (nI kP)), (0, .ref h0), (1, .int (IVW fbpapers td vd vl kbpapers))]) hx hb gX9_impossibleOnes_6.2.2.2.2.2.2.2.2.2 rfl hl (by decide) rfl (fun ls hl => ?_)
            refine lv_iinc (v := nI (kP + 1)) (lv' := [(3, .int (nI (kP + 1))), (2, .int (bi ||| (1 <<< ((nI kP) &&& 31)))), (5, .int 1), (4, .int (fbsayings (kP * 8 + 3))), (0, .ref h0), (1, .int (IVW fbpapers td vd vl kbpapers))]) hx hb gX9_impossibleOnes_7.1 hl (k := 3) rfl (nI_1 _) (by decide) rfl (fun ls hl => ?_)
            refine lv_goto (tgt := 4) hx hb gX9_impossibleOnes_7.2.1 (by decide) ?_
            refine Kpds (ws' := [(h0, oX9 bb sg tf13414 tt13415 tl tbv), (sg, oX7 bb clk fi la ml mm sl sm scl), (la, iA G 12 fla), (ml, iA G 12 fml), (mm, iA G 12 fmm), (sl, iA G 12 fsl), (sm, iA G 12 fsm), (bb, oX0 bpersons bpapers bstamps bversions blines bsteps bsayings bfindings bwarnings bquestions td vd vl gp), (bpapers, oX8 12 6 bpapersc (nI kbpapers)), (bpapersc, iA G 72 fbpapers), (bpersons, oX8 10 2 bpersonsc (nI kbpersons)), (bpersonsc, iA G 20 fbpersons), (bsayings, oX8 16 8 bsayingsc (nI kbsayings)), (bsayingsc, iA G 128 fbsayings)]) hP hD [2, 3, 4, 5, 6, 7, 8, 9, 10, 11, 12, 13, 0, 1] fm_2_3_4_5_6_7_8_9_10_11_12_13_0_1 nd_2_3_4_5_6_7_8_9_10_11_12_13_0_1 sm_2_3_4_5_6_7_8_9_10_11_12_13_0_1 (fun hP hD => ?_)
            have hq9 : QSF K9 fbstamps V9 fbpapers fbpersons fbsayings kbstamps kP _ _ := QSF.mk ejx ejo (by omega) (by omega) w3416
            have hst9 : bi ||| (1 <<< ((nI kP) &&& 31)) = IMB (fun s9 => CSQ fbsayings fbpapers td vd vl s9 ∧ IMS fbsayings (QSF K9 fbstamps V9 fbpapers fbpersons fbsayings kbstamps) s9) (kP + 1) := IMB.y hbi ⟨a3407, _, _, hq9, Or.inr ⟨c_88_3421, Int32.not_lt.mp c_114_3422⟩⟩
            exact ihP (kP + 1) (bi ||| (1 <<< ((nI kP) &&& 31))) tf13414 tt13415 _ _ _ (by omega) (by first | assumption | exact Or.inl rfl | exact Or.inr rfl | exact rfl) (And.intro hP hD) hS (lv_sub hl [0, 1, 4, 5] rfl)
        · refine lv_iload hx hb gX9_impossibleOnes_4.2.2.2.2.2.2.1 (lv_at0 hl) ?_
          refine lv_aload_n hx hb gX9_impossibleOnes_4.2.2.2.2.2.2.2.1 rfl (lv_at3 hl) ?_
          refine gf_X9_19 hC rfl hK hP 2 rfl rfl gX9_impossibleOnes_4.2.2.2.2.2.2.2.2.1 ?_
          refine lv_icmp_ge (tgt := 104) hx hb gX9_impossibleOnes_4.2.2.2.2.2.2.2.2.2 (by decide) (fun c_97_3423 => ?_) (fun c_97_3423 => ?_)
          · refine lv_iconst (v := 0) hx hb gX9_impossibleOnes_5.2.2.1 (by decide) ?_
            refine lv_goto (tgt := 122) hx hb gX9_impossibleOnes_5.2.2.2.1 (by decide) ?_
            refine lv_istore (lv' := [(5, .int 0), (4, .int (fbsayings (kP * 8 + 3))), (3, .int (nI kP)), (2, .int bi), (0, .ref h0), (1, .int (IVW fbpapers td vd vl kbpapers))]) hx hb gX9_impossibleOnes_6.2.1 hl (by decide) rfl (fun ls hl => ?_)
            refine lv_iload hx hb gX9_impossibleOnes_6.2.2.1 (lv_at0 hl) ?_
            refine lv_if_eq (tgt := 135) hx hb gX9_impossibleOnes_6.2.2.2.1 (by decide) (fun _ => ?_) (fun c9 => absurd (by decide) c9)
            refine lv_iinc (v := nI (kP + 1)) (lv' := [(3, .int (nI (kP + 1))), (5, .int 0), (4, .int (fbsayings (kP * 8 + 3))), (2, .int bi), (0, .ref h0), (1, .int (IVW fbpapers td vd vl kbpapers))]) hx hb gX9_impossibleOnes_7.1 hl (k := 2) rfl (nI_1 _) (by decide) rfl (fun ls hl => ?_)
            refine lv_goto (tgt := 4) hx hb gX9_impossibleOnes_7.2.1 (by decide) ?_
            refine Kpds (ws' := [(h0, oX9 bb sg tf13414 tt13415 tl tbv), (sg, oX7 bb clk fi la ml mm sl sm scl), (la, iA G 12 fla), (ml, iA G 12 fml), (mm, iA G 12 fmm), (sl, iA G 12 fsl), (sm, iA G 12 fsm), (bb, oX0 bpersons bpapers bstamps bversions blines bsteps bsayings bfindings bwarnings bquestions td vd vl gp), (bpapers, oX8 12 6 bpapersc (nI kbpapers)), (bpapersc, iA G 72 fbpapers), (bpersons, oX8 10 2 bpersonsc (nI kbpersons)), (bpersonsc, iA G 20 fbpersons), (bsayings, oX8 16 8 bsayingsc (nI kbsayings)), (bsayingsc, iA G 128 fbsayings)]) hP hD [2, 3, 4, 5, 6, 7, 8, 9, 10, 11, 12, 13, 0, 1] fm_2_3_4_5_6_7_8_9_10_11_12_13_0_1 nd_2_3_4_5_6_7_8_9_10_11_12_13_0_1 sm_2_3_4_5_6_7_8_9_10_11_12_13_0_1 (fun hP hD => ?_)
            have hq9 : QSF K9 fbstamps V9 fbpapers fbpersons fbsayings kbstamps kP _ _ := QSF.mk ejx ejo (by omega) (by omega) w3416
            have hst9 : bi = IMB (fun s9 => CSQ fbsayings fbpapers td vd vl s9 ∧ IMS fbsayings (QSF K9 fbstamps V9 fbpapers fbpersons fbsayings kbstamps) s9) (kP + 1) := IMB.n hbi (fun h9 => IMS.no hSV hq9 (fun h9 => h9.elim (fun h8 => Int32.not_lt.mpr c_97_3423 h8.2) (fun h8 => h8.1 c_88_3421)) h9.2)
            exact ihP (kP + 1) bi tf13414 tt13415 _ _ _ (by omega) (by first | assumption | exact Or.inl rfl | exact Or.inr rfl | exact rfl) (And.intro hP hD) hS (lv_sub hl [0, 3, 4, 5] rfl)
          · refine lv_iconst (v := 1) hx hb gX9_impossibleOnes_5.1 (by decide) ?_
            refine lv_goto (tgt := 122) hx hb gX9_impossibleOnes_5.2.1 (by decide) ?_
            refine lv_istore (lv' := [(5, .int 1), (4, .int (fbsayings (kP * 8 + 3))), (3, .int (nI kP)), (2, .int bi), (0, .ref h0), (1, .int (IVW fbpapers td vd vl kbpapers))]) hx hb gX9_impossibleOnes_6.2.1 hl (by decide) rfl (fun ls hl => ?_)
            refine lv_iload hx hb gX9_impossibleOnes_6.2.2.1 (lv_at0 hl) ?_
            refine lv_if_eq (tgt := 135) hx hb gX9_impossibleOnes_6.2.2.2.1 (by decide) (fun c9 => absurd c9 (by decide)) (fun _ => ?_)
            refine lv_iload_n hx hb gX9_impossibleOnes_6.2.2.2.2.1 rfl (lv_at3 hl) ?_
            refine lv_iconst (v := 1) hx hb gX9_impossibleOnes_6.2.2.2.2.2.1 (by decide) ?_
            refine lv_iload_n hx hb gX9_impossibleOnes_6.2.2.2.2.2.2.1 rfl (lv_at2 hl) ?_
            refine lv_ishl hx hb gX9_impossibleOnes_6.2.2.2.2.2.2.2.1 ?_
            refine lv_ior hx hb gX9_impossibleOnes_6.2.2.2.2.2.2.2.2.1 ?_
            refine lv_istore_n (lv' := [(2, .int (bi ||| (1 <<< ((nI kP) &&& 31)))), (5, .int 1), (4, .int (fbsayings (kP * 8 + 3))), (3, .int (nI kP)), (0, .ref h0), (1, .int (IVW fbpapers td vd vl kbpapers))]) hx hb gX9_impossibleOnes_6.2.2.2.2.2.2.2.2.2 rfl hl (by decide) rfl (fun ls hl => ?_)
            refine lv_iinc (v := nI (kP + 1)) (lv' := [(3, .int (nI (kP + 1))), (2, .int (bi ||| (1 <<< ((nI kP) &&& 31)))), (5, .int 1), (4, .int (fbsayings (kP * 8 + 3))), (0, .ref h0), (1, .int (IVW fbpapers td vd vl kbpapers))]) hx hb gX9_impossibleOnes_7.1 hl (k := 3) rfl (nI_1 _) (by decide) rfl (fun ls hl => ?_)
            refine lv_goto (tgt := 4) hx hb gX9_impossibleOnes_7.2.1 (by decide) ?_
            refine Kpds (ws' := [(h0, oX9 bb sg tf13414 tt13415 tl tbv), (sg, oX7 bb clk fi la ml mm sl sm scl), (la, iA G 12 fla), (ml, iA G 12 fml), (mm, iA G 12 fmm), (sl, iA G 12 fsl), (sm, iA G 12 fsm), (bb, oX0 bpersons bpapers bstamps bversions blines bsteps bsayings bfindings bwarnings bquestions td vd vl gp), (bpapers, oX8 12 6 bpapersc (nI kbpapers)), (bpapersc, iA G 72 fbpapers), (bpersons, oX8 10 2 bpersonsc (nI kbpersons)), (bpersonsc, iA G 20 fbpersons), (bsayings, oX8 16 8 bsayingsc (nI kbsayings)), (bsayingsc, iA G 128 fbsayings)]) hP hD [2, 3, 4, 5, 6, 7, 8, 9, 10, 11, 12, 13, 0, 1] fm_2_3_4_5_6_7_8_9_10_11_12_13_0_1 nd_2_3_4_5_6_7_8_9_10_11_12_13_0_1 sm_2_3_4_5_6_7_8_9_10_11_12_13_0_1 (fun hP hD => ?_)
            have hq9 : QSF K9 fbstamps V9 fbpapers fbpersons fbsayings kbstamps kP _ _ := QSF.mk ejx ejo (by omega) (by omega) w3416
            have hst9 : bi ||| (1 <<< ((nI kP) &&& 31)) = IMB (fun s9 => CSQ fbsayings fbpapers td vd vl s9 ∧ IMS fbsayings (QSF K9 fbstamps V9 fbpapers fbpersons fbsayings kbstamps) s9) (kP + 1) := IMB.y hbi ⟨a3407, _, _, hq9, Or.inl ⟨c_88_3421, Int32.not_le.mp c_97_3423⟩⟩
            exact ihP (kP + 1) (bi ||| (1 <<< ((nI kP) &&& 31))) tf13414 tt13415 _ _ _ (by omega) (by first | assumption | exact Or.inl rfl | exact Or.inr rfl | exact rfl) (And.intro hP hD) hS (lv_sub hl [0, 1, 4, 5] rfl)
      · refine lv_if_ne (tgt := 33) hx hb gX9_impossibleOnes_1.2.2.2.2.2.1 (by decide) (fun c9 => absurd (by decide) c9) (fun _ => ?_)
        refine lv_goto (tgt := 135) hx hb gX9_impossibleOnes_1.2.2.2.2.2.2.1 (by decide) ?_
        refine lv_iinc (v := nI (kP + 1)) (lv' := [(3, .int (nI (kP + 1))), (2, .int bi), (0, .ref h0), (1, .int (IVW fbpapers td vd vl kbpapers))]) hx hb gX9_impossibleOnes_7.1 hl (k := 0) rfl (nI_1 _) (by decide) rfl (fun ls hl => ?_)
        refine lv_goto (tgt := 4) hx hb gX9_impossibleOnes_7.2.1 (by decide) ?_
        have hst9 : bi = IMB (fun s9 => CSQ fbsayings fbpapers td vd vl s9 ∧ IMS fbsayings (QSF K9 fbstamps V9 fbpapers fbpersons fbsayings kbstamps) s9) (kP + 1) := IMB.n hbi (fun h9 => a3407 h9.1)
        exact ihP (kP + 1) bi wf wt _ _ _ (by omega) (by first | assumption | exact Or.inl rfl | exact Or.inr rfl | exact rfl) (And.intro hP hD) hS (lv_sub hl [0, 1, 2, 3] rfl)
  exact keyP kbsayings 0 0 tf tt9 _ _ _ (by omega) (by first | assumption | exact Or.inl rfl | exact Or.inr rfl | exact rfl) (And.intro hP hD) hS (lv_sub hl [0, 1, 2, 3] rfl)
def K_c_isOnX (l : Launch) (G : GG) (h0 : Nat) (js : Nat) (je : Nat) (jp : Nat) (bb : Nat) (sg : Nat) (tf : Int32) (tt9 : Int32) (tl : Int32) (tbv : Int32) (bpersons : Nat) (bpapers : Nat) (bstamps : Nat) (bversions : Nat) (blines : Nat) (bsteps : Nat) (bsayings : Nat) (bfindings : Nat) (bwarnings : Nat) (bquestions : Nat) (td : Int32) (vd : Int32) (vl : Int32) (gp : Int32) (bsayingsc : Nat) (kbsayings : Nat) (fbsayings : Nat → Int32) (bpapersc : Nat) (kbpapers : Nat) (fbpapers : Nat → Int32) : Prop := MP l G yX9_isOn cX9_isOn 5 (some .boolean) 4 [.ref h0, .int (nI js), .int (nI je), .int (nI jp), .int (IVW fbpapers td vd vl kbpapers)] [(h0, oX9 bb sg tf tt9 tl tbv), (bb, oX0 bpersons bpapers bstamps bversions blines bsteps bsayings bfindings bwarnings bquestions td vd vl gp), (bsayings, oX8 16 8 bsayingsc (nI kbsayings)), (bsayingsc, iA G 128 fbsayings), (bpapers, oX8 12 6 bpapersc (nI kbpapers)), (bpapersc, iA G 72 fbpapers)] (fun r : Int32 => (r = 1 ∧ (PWS fbsayings fbpapers td vd vl je jp) js) ∨ (r = 0 ∧ ¬ (PWS fbsayings fbpapers td vd vl je jp) js))
set_option maxHeartbeats 4000000 in
set_option maxRecDepth 100000 in
theorem c_isOnX (l : Launch) (G : GG) (h0 : Nat) (js : Nat) (je : Nat) (jp : Nat) (bb : Nat) (sg : Nat) (tf : Int32) (tt9 : Int32) (tl : Int32) (tbv : Int32) (bpersons : Nat) (bpapers : Nat) (bstamps : Nat) (bversions : Nat) (blines : Nat) (bsteps : Nat) (bsayings : Nat) (bfindings : Nat) (bwarnings : Nat) (bquestions : Nat) (td : Int32) (vd : Int32) (vl : Int32) (gp : Int32) (bsayingsc : Nat) (kbsayings : Nat) (fbsayings : Nat → Int32) (bpapersc : Nat) (kbpapers : Nat) (fbpapers : Nat → Int32) (hkbsayings : kbsayings ≤ 16) (hkbpapers : kbpapers ≤ 12) (hSP : SPI fbsayings kbsayings kbpapers) (hjs : js < kbsayings) : K_c_isOnX l G h0 js je jp bb sg tf tt9 tl tbv bpersons bpapers bstamps bversions blines bsteps bsayings bfindings bwarnings bquestions td vd vl gp bsayingsc kbsayings fbsayings bpapersc kbpapers fbpapers := by
  refine MP.start (by decide +kernel) (Nat.le_of_ble_eq_true rfl) ?_
  intro p e s m below meth c ls hC hK hP hD hl
  refine absQ (fun Q0 hQ0 => ?_)
  have hl : lv_has ls 5 [(0, .ref h0), (1, .int (nI js)), (2, .int (nI je)), (3, .int (nI jp)), (4, .int (IVW fbpapers td vd vl kbpapers))] := hl
  refine Kan8 hC (fun hx hb hr hml hB hown hlocks hnm => ?_)
  refine lv_aload_n hx hb gX9_isOn_0.1 rfl (lv_at0 hl) ?_
  refine gf_X9_9 hC rfl hK hP 0 rfl rfl gX9_isOn_0.2.1 ?_
  refine gf_X9_42 hC rfl hK hP 1 rfl rfl gX9_isOn_0.2.2.1 ?_
  refine lv_iload_n hx hb gX9_isOn_0.2.2.2.1 rfl (lv_at1 hl) ?_
  refine lv_iconst (v := 1) hx hb gX9_isOn_0.2.2.2.2.1 (by decide) ?_
  refine pV hC hK hl hP hD (c_T_at l G bsayings (nI js) 1 16 8 bsayingsc kbsayings fbsayings (hkbsayings) (by omega) (by omega)) si_X9_48 [2, 3] sm_2_3 fm_2_3 nd_2_3 rfl rfl rfl rfl rfl (Nat.le_of_ble_eq_true rfl) rm_4_1_3 ⟨by first | exact Nat.le_of_ble_eq_true rfl | exact Nat.zero_le _, by first | exact Nat.le_of_ble_eq_true rfl | exact Nat.zero_le _⟩ gX9_isOn_0.2.2.2.2.2.1 (fun r3424 hr3424 => ?_)
  refine eqi (x1 := fbsayings (js * 8 + 1)) (hr3424.trans (tatq (by omega) (by omega) (by decide) (by decide) rfl)) ?_
  refine lv_iload_n hx hb gX9_isOn_0.2.2.2.2.2.2.1 rfl (lv_at2 hl) ?_
  refine lv_icmp_ne (tgt := 49) hx hb gX9_isOn_0.2.2.2.2.2.2.2.1 (by decide) (fun c_13_3426 => ?_) (fun c_13_3426 => ?_)
  · refine lv_iconst (v := 0) hx hb gX9_isOn_2.2.2.2.2.1 (by decide) ?_
    refine toQ hQ0 ?_
    exact RP (v := 0) hC (Or.inr ⟨rfl, fun h9 => c_13_3426 h9.1⟩) (by decide +kernel) gX9_isOn_2.2.2.2.2.2
  · refine lv_aload_n hx hb gX9_isOn_0.2.2.2.2.2.2.2.2.1 rfl (lv_at0 hl) ?_
    refine gf_X9_9 hC rfl hK hP 0 rfl rfl gX9_isOn_0.2.2.2.2.2.2.2.2.2 ?_
    refine gf_X9_42 hC rfl hK hP 1 rfl rfl gX9_isOn_1.1 ?_
    refine lv_iload_n hx hb gX9_isOn_1.2.1 rfl (lv_at1 hl) ?_
    refine lv_iconst (v := 2) hx hb gX9_isOn_1.2.2.1 (by decide) ?_
    refine pV hC hK hl hP hD (c_T_at l G bsayings (nI js) 2 16 8 bsayingsc kbsayings fbsayings (hkbsayings) (by omega) (by omega)) si_X9_48 [2, 3] sm_2_3 fm_2_3 nd_2_3 rfl rfl rfl rfl rfl (Nat.le_of_ble_eq_true rfl) rm_4_1_3 ⟨by first | exact Nat.le_of_ble_eq_true rfl | exact Nat.zero_le _, by first | exact Nat.le_of_ble_eq_true rfl | exact Nat.zero_le _⟩ gX9_isOn_1.2.2.2.1 (fun r3427 hr3427 => ?_)
    refine eqi (x1 := fbsayings (js * 8 + 2)) (hr3427.trans (tatq (by omega) (by omega) (by decide) (by decide) rfl)) ?_
    refine lv_iload_n hx hb gX9_isOn_1.2.2.2.2.1 rfl (lv_at3 hl) ?_
    refine lv_icmp_ne (tgt := 49) hx hb gX9_isOn_1.2.2.2.2.2.1 (by decide) (fun c_29_3429 => ?_) (fun c_29_3429 => ?_)
    · refine lv_iconst (v := 0) hx hb gX9_isOn_2.2.2.2.2.1 (by decide) ?_
      refine toQ hQ0 ?_
      exact RP (v := 0) hC (Or.inr ⟨rfl, fun h9 => c_29_3429 h9.2.1⟩) (by decide +kernel) gX9_isOn_2.2.2.2.2.2
    · refine lv_aload_n hx hb gX9_isOn_1.2.2.2.2.2.2.1 rfl (lv_at0 hl) ?_
      refine gf_X9_9 hC rfl hK hP 0 rfl rfl gX9_isOn_1.2.2.2.2.2.2.2.1 ?_
      refine lv_iload_n hx hb gX9_isOn_1.2.2.2.2.2.2.2.2.1 rfl (lv_at1 hl) ?_
      refine lv_iload hx hb gX9_isOn_1.2.2.2.2.2.2.2.2.2 (lv_at4 hl) ?_
      refine pV hC hK hl hP hD (c_countsX l G bb js bpersons bpapers bstamps bversions blines bsteps bsayings bfindings bwarnings bquestions td vd vl gp bsayingsc kbsayings fbsayings bpapersc kbpapers fbpapers (hkbsayings) (hkbpapers) (hSP) (hjs)) si_X9_54 [1, 2, 3, 4, 5] sm_1_2_3_4_5 fm_1_2_3_4_5 nd_1_2_3_4_5 rfl rfl rfl rfl rfl (Nat.le_of_ble_eq_true rfl) rm_4_3_3 ⟨by first | exact Nat.le_of_ble_eq_true rfl | exact Nat.zero_le _, by first | exact Nat.le_of_ble_eq_true rfl | exact Nat.zero_le _⟩ gX9_isOn_2.1 (Kors (Keqa fun a3431 => ?_) (Keqa fun a3431 => ?_))
      · refine lv_if_eq (tgt := 49) hx hb gX9_isOn_2.2.1 (by decide) (fun c9 => absurd c9 (by decide)) (fun _ => ?_)
        refine lv_iconst (v := 1) hx hb gX9_isOn_2.2.2.1 (by decide) ?_
        refine lv_goto (tgt := 50) hx hb gX9_isOn_2.2.2.2.1 (by decide) ?_
        refine toQ hQ0 ?_
        exact RP (v := 1) hC (Or.inl ⟨rfl, c_13_3426, c_29_3429, a3431⟩) (by decide +kernel) gX9_isOn_2.2.2.2.2.2
      · refine lv_if_eq (tgt := 49) hx hb gX9_isOn_2.2.1 (by decide) (fun _ => ?_) (fun c9 => absurd (by decide) c9)
        refine lv_iconst (v := 0) hx hb gX9_isOn_2.2.2.2.2.1 (by decide) ?_
        refine toQ hQ0 ?_
        exact RP (v := 0) hC (Or.inr ⟨rfl, fun h9 => a3431 h9.2.2⟩) (by decide +kernel) gX9_isOn_2.2.2.2.2.2
def K_c_weightAgainstX (l : Launch) (G : GG) (h0 : Nat) (hh : Int32) (je : Nat) (jp : Nat) (bb : Nat) (sg : Nat) (tf : Int32) (tt9 : Int32) (tl : Int32) (tbv : Int32) (bpersons : Nat) (bpapers : Nat) (bstamps : Nat) (bversions : Nat) (blines : Nat) (bsteps : Nat) (bsayings : Nat) (bfindings : Nat) (bwarnings : Nat) (bquestions : Nat) (td : Int32) (vd : Int32) (vl : Int32) (gp : Int32) (bsayingsc : Nat) (kbsayings : Nat) (fbsayings : Nat → Int32) (bpapersc : Nat) (kbpapers : Nat) (fbpapers : Nat → Int32) : Prop := MP l G yX9_weightAgainst cX9_weightAgainst 9 (some .int) 5 [.ref h0, .int hh, .int (nI je), .int (nI jp), .int (IVW fbpapers td vd vl kbpapers)] [(h0, oX9 bb sg tf tt9 tl tbv), (bb, oX0 bpersons bpapers bstamps bversions blines bsteps bsayings bfindings bwarnings bquestions td vd vl gp), (bsayings, oX8 16 8 bsayingsc (nI kbsayings)), (bsayingsc, iA G 128 fbsayings), (bpapers, oX8 12 6 bpapersc (nI kbpapers)), (bpapersc, iA G 72 fbpapers)] (fun r : Int32 => r = (WGS (PWS fbsayings fbpapers td vd vl je jp) fbsayings hh kbsayings))
set_option maxHeartbeats 4000000 in
set_option maxRecDepth 100000 in
theorem c_weightAgainstX (l : Launch) (G : GG) (h0 : Nat) (hh : Int32) (je : Nat) (jp : Nat) (bb : Nat) (sg : Nat) (tf : Int32) (tt9 : Int32) (tl : Int32) (tbv : Int32) (bpersons : Nat) (bpapers : Nat) (bstamps : Nat) (bversions : Nat) (blines : Nat) (bsteps : Nat) (bsayings : Nat) (bfindings : Nat) (bwarnings : Nat) (bquestions : Nat) (td : Int32) (vd : Int32) (vl : Int32) (gp : Int32) (bsayingsc : Nat) (kbsayings : Nat) (fbsayings : Nat → Int32) (bpapersc : Nat) (kbpapers : Nat) (fbpapers : Nat → Int32) (hkbsayings : kbsayings ≤ 16) (hkbpapers : kbpapers ≤ 12) (hSP : SPI fbsayings kbsayings kbpapers) : K_c_weightAgainstX l G h0 hh je jp bb sg tf tt9 tl tbv bpersons bpapers bstamps bversions blines bsteps bsayings bfindings bwarnings bquestions td vd vl gp bsayingsc kbsayings fbsayings bpapersc kbpapers fbpapers := by
  refine MP.start (by decide +kernel) (Nat.le_of_ble_eq_true rfl) ?_
  intro p e s m below meth c ls hC hK hP hD hl
  refine absQ (fun Q0 hQ0 => ?_)
  have hl : lv_has ls 9 [(0, .ref h0), (1, .int hh), (2, .int (nI je)), (3, .int (nI jp)), (4, .int (IVW fbpapers td vd vl kbpapers))] := hl
  refine Kan8 hC (fun hx hb hr hml hB hown hlocks hnm => ?_)
  refine lv_iconst (v := 0) hx hb gX9_weightAgainst_0.1 (by decide) ?_
  refine lv_istore (lv' := [(5, .int 0), (0, .ref h0), (1, .int hh), (2, .int (nI je)), (3, .int (nI jp)), (4, .int (IVW fbpapers td vd vl kbpapers))]) hx hb gX9_weightAgainst_0.2.1 hl (by decide) rfl (fun ls hl => ?_)
  refine lv_iconst (v := 0) hx hb gX9_weightAgainst_0.2.2.1 (by decide) ?_
  refine lv_istore (lv' := [(6, .int 0), (5, .int 0), (0, .ref h0), (1, .int hh), (2, .int (nI je)), (3, .int (nI jp)), (4, .int (IVW fbpapers td vd vl kbpapers))]) hx hb gX9_weightAgainst_0.2.2.2.1 hl (by decide) rfl (fun ls hl => ?_)
  have keyP : ∀ (nP kP : Nat) (su : Int32) (ls : Array Slot), kP + nP = kbsayings → (su = WGS (PWS fbsayings fbpapers td vd vl je jp) fbsayings hh kP) → lv_has ls 9 [(6, .int (nI kP)), (5, .int su), (0, .ref h0), (1, .int hh), (2, .int (nI je)), (3, .int (nI jp)), (4, .int (IVW fbpapers td vd vl kbpapers))] → W p l e (RM 5 0 0) s m ([.ref h0, .int hh, .int (nI je), .int (nI jp), .int (IVW fbpapers td vd vl kbpapers)] : List Value).toArray below meth c s.heap [] 0 0 Q0 (F0 m 6 ls []) := by
    intro nP
    induction nP with
    | zero =>
      intro kP su ls hkP hsu hl
      obtain rfl : kbsayings = kP := by omega
      have hl : lv_has ls 9 [(6, .int (nI kbsayings)), (5, .int su), (0, .ref h0), (1, .int hh), (2, .int (nI je)), (3, .int (nI jp)), (4, .int (IVW fbpapers td vd vl kbpapers))] := hl
      refine lv_iload hx hb gX9_weightAgainst_0.2.2.2.2.1 (lv_at0 hl) ?_
      refine lv_aload_n hx hb gX9_weightAgainst_0.2.2.2.2.2.1 rfl (lv_at2 hl) ?_
      refine gf_X9_9 hC rfl hK hP 0 rfl rfl gX9_weightAgainst_0.2.2.2.2.2.2.1 ?_
      refine gf_X9_42 hC rfl hK hP 1 rfl rfl gX9_weightAgainst_0.2.2.2.2.2.2.2.1 ?_
      refine pV hC hK hl hP hD (c_T_count l G bsayings 16 8 bsayingsc kbsayings) si_X9_65 [2] sm_2 fm_2 nd_2 rfl rfl rfl rfl rfl (Nat.le_of_ble_eq_true rfl) rm_5_1_1 ⟨by first | exact Nat.le_of_ble_eq_true rfl | exact Nat.zero_le _, by first | exact Nat.le_of_ble_eq_true rfl | exact Nat.zero_le _⟩ gX9_weightAgainst_0.2.2.2.2.2.2.2.2.1 (Keqr ?_)
      refine lv_icmp_ge (tgt := 116) hx hb gX9_weightAgainst_0.2.2.2.2.2.2.2.2.2 (by decide) (fun _ => ?_) (fun c9 => absurd (Int32.le_refl _) c9)
      refine lv_iload hx hb gX9_weightAgainst_5.2.2.2.2.2.2.1 (lv_at1 hl) ?_
      refine toQ hQ0 ?_
      exact RP (v := su) hC (hsu) rfl gX9_weightAgainst_5.2.2.2.2.2.2.2
    | succ nP ihP =>
      intro kP su ls hkP hsu hl
      refine lv_iload hx hb gX9_weightAgainst_0.2.2.2.2.1 (lv_at0 hl) ?_
      refine lv_aload_n hx hb gX9_weightAgainst_0.2.2.2.2.2.1 rfl (lv_at2 hl) ?_
      refine gf_X9_9 hC rfl hK hP 0 rfl rfl gX9_weightAgainst_0.2.2.2.2.2.2.1 ?_
      refine gf_X9_42 hC rfl hK hP 1 rfl rfl gX9_weightAgainst_0.2.2.2.2.2.2.2.1 ?_
      refine pV hC hK hl hP hD (c_T_count l G bsayings 16 8 bsayingsc kbsayings) si_X9_65 [2] sm_2 fm_2 nd_2 rfl rfl rfl rfl rfl (Nat.le_of_ble_eq_true rfl) rm_5_1_1 ⟨by first | exact Nat.le_of_ble_eq_true rfl | exact Nat.zero_le _, by first | exact Nat.le_of_ble_eq_true rfl | exact Nat.zero_le _⟩ gX9_weightAgainst_0.2.2.2.2.2.2.2.2.1 (Keqr ?_)
      refine lv_icmp_ge (tgt := 116) hx hb gX9_weightAgainst_0.2.2.2.2.2.2.2.2.2 (by decide) (fun c9 => absurd c9 (nI_ge (a := kP) (b := kbsayings) (by omega) (by omega))) (fun _ => ?_)
      refine lv_aload_n hx hb gX9_weightAgainst_1.1 rfl (lv_at2 hl) ?_
      refine lv_iload hx hb gX9_weightAgainst_1.2.1 (lv_at0 hl) ?_
      refine lv_iload_n hx hb gX9_weightAgainst_1.2.2.1 rfl (lv_at4 hl) ?_
      refine lv_iload_n hx hb gX9_weightAgainst_1.2.2.2.1 rfl (lv_at5 hl) ?_
      refine lv_iload hx hb gX9_weightAgainst_1.2.2.2.2.1 (lv_at6 hl) ?_
      refine pV hC hK hl hP hD (c_isOnX l G h0 kP je jp bb sg tf tt9 tl tbv bpersons bpapers bstamps bversions blines bsteps bsayings bfindings bwarnings bquestions td vd vl gp bsayingsc kbsayings fbsayings bpapersc kbpapers fbpapers (hkbsayings) (hkbpapers) (hSP) (by omega)) si_X9_73 [0, 1, 2, 3, 4, 5] sm_0_1_2_3_4_5 fm_0_1_2_3_4_5 nd_0_1_2_3_4_5 rfl rfl rfl rfl rfl (Nat.le_of_ble_eq_true rfl) rm_5_4_5 ⟨by first | exact Nat.le_of_ble_eq_true rfl | exact Nat.zero_le _, by first | exact Nat.le_of_ble_eq_true rfl | exact Nat.zero_le _⟩ gX9_weightAgainst_1.2.2.2.2.2.1 (Kors (Keqa fun a3437 => ?_) (Keqa fun a3437 => ?_))
      · refine lv_if_ne (tgt := 37) hx hb gX9_weightAgainst_1.2.2.2.2.2.2.1 (by decide) (fun _ => ?_) (fun c9 => absurd c9 (by decide))
        refine lv_aload_n hx hb gX9_weightAgainst_1.2.2.2.2.2.2.2.2.1 rfl (lv_at2 hl) ?_
        refine gf_X9_9 hC rfl hK hP 0 rfl rfl gX9_weightAgainst_1.2.2.2.2.2.2.2.2.2 ?_
        refine gf_X9_42 hC rfl hK hP 1 rfl rfl gX9_weightAgainst_2.1 ?_
        refine lv_iload hx hb gX9_weightAgainst_2.2.1 (lv_at0 hl) ?_
        refine lv_iconst (v := 5) hx hb gX9_weightAgainst_2.2.2.1 (by decide) ?_
        refine pV hC hK hl hP hD (c_T_at l G bsayings (nI kP) 5 16 8 bsayingsc kbsayings fbsayings (hkbsayings) (by omega) (by omega)) si_X9_48 [2, 3] sm_2_3 fm_2_3 nd_2_3 rfl rfl rfl rfl rfl (Nat.le_of_ble_eq_true rfl) rm_5_1_3 ⟨by first | exact Nat.le_of_ble_eq_true rfl | exact Nat.zero_le _, by first | exact Nat.le_of_ble_eq_true rfl | exact Nat.zero_le _⟩ gX9_weightAgainst_2.2.2.2.1 (fun r3438 hr3438 => ?_)
        refine eqi (x1 := fbsayings (kP * 8 + 5)) (hr3438.trans (tatq (by omega) (by omega) (by decide) (by decide) rfl)) ?_
        refine lv_iconst (v := 1) hx hb gX9_weightAgainst_2.2.2.2.2.1 (by decide) ?_
        refine lv_icmp_ne (tgt := 58) hx hb gX9_weightAgainst_2.2.2.2.2.2.1 (by decide) (fun c_51_3440 => ?_) (fun c_51_3440 => ?_)
        · refine lv_iconst (v := 0) hx hb gX9_weightAgainst_2.2.2.2.2.2.2.2.2.1 (by decide) ?_
          refine lv_istore (lv' := [(7, .int 0), (6, .int (nI kP)), (5, .int su), (0, .ref h0), (1, .int hh), (2, .int (nI je)), (3, .int (nI jp)), (4, .int (IVW fbpapers td vd vl kbpapers))]) hx hb gX9_weightAgainst_2.2.2.2.2.2.2.2.2.2 hl (by decide) rfl (fun ls hl => ?_)
          refine lv_aload_n hx hb gX9_weightAgainst_3.1 rfl (lv_at3 hl) ?_
          refine gf_X9_9 hC rfl hK hP 0 rfl rfl gX9_weightAgainst_3.2.1 ?_
          refine gf_X9_42 hC rfl hK hP 1 rfl rfl gX9_weightAgainst_3.2.2.1 ?_
          refine lv_iload hx hb gX9_weightAgainst_3.2.2.2.1 (lv_at1 hl) ?_
          refine lv_iconst (v := 3) hx hb gX9_weightAgainst_3.2.2.2.2.1 (by decide) ?_
          refine pV hC hK hl hP hD (c_T_at l G bsayings (nI kP) 3 16 8 bsayingsc kbsayings fbsayings (hkbsayings) (by omega) (by omega)) si_X9_48 [2, 3] sm_2_3 fm_2_3 nd_2_3 rfl rfl rfl rfl rfl (Nat.le_of_ble_eq_true rfl) rm_5_1_3 ⟨by first | exact Nat.le_of_ble_eq_true rfl | exact Nat.zero_le _, by first | exact Nat.le_of_ble_eq_true rfl | exact Nat.zero_le _⟩ gX9_weightAgainst_3.2.2.2.2.2.1 (fun r3441 hr3441 => ?_)
          refine eqi (x1 := fbsayings (kP * 8 + 3)) (hr3441.trans (tatq (by omega) (by omega) (by decide) (by decide) rfl)) ?_
          refine lv_iload_n hx hb gX9_weightAgainst_3.2.2.2.2.2.2.1 rfl (lv_at4 hl) ?_
          refine lv_icmp_ge (tgt := 82) hx hb gX9_weightAgainst_3.2.2.2.2.2.2.2.1 (by decide) (fun c_75_3443 => ?_) (fun c_75_3443 => ?_)
          · refine lv_iconst (v := 0) hx hb gX9_weightAgainst_4.1 (by decide) ?_
            refine lv_istore (lv' := [(8, .int 0), (7, .int 0), (6, .int (nI kP)), (5, .int su), (0, .ref h0), (1, .int hh), (2, .int (nI je)), (3, .int (nI jp)), (4, .int (IVW fbpapers td vd vl kbpapers))]) hx hb gX9_weightAgainst_4.2.1 hl (by decide) rfl (fun ls hl => ?_)
            refine lv_iload hx hb gX9_weightAgainst_4.2.2.1 (lv_at1 hl) ?_
            refine lv_iload hx hb gX9_weightAgainst_4.2.2.2.1 (lv_at0 hl) ?_
            refine lv_icmp_ne (tgt := 110) hx hb gX9_weightAgainst_4.2.2.2.2.1 (by decide) (fun c9 => absurd (by decide) c9) (fun _ => ?_)
            refine lv_iload hx hb gX9_weightAgainst_4.2.2.2.2.2.1 (lv_at3 hl) ?_
            refine lv_aload_n hx hb gX9_weightAgainst_4.2.2.2.2.2.2.1 rfl (lv_at4 hl) ?_
            refine gf_X9_9 hC rfl hK hP 0 rfl rfl gX9_weightAgainst_4.2.2.2.2.2.2.2.1 ?_
            refine gf_X9_42 hC rfl hK hP 1 rfl rfl gX9_weightAgainst_4.2.2.2.2.2.2.2.2.1 ?_
            refine lv_iload hx hb gX9_weightAgainst_4.2.2.2.2.2.2.2.2.2 (lv_at2 hl) ?_
            refine lv_iconst (v := 4) hx hb gX9_weightAgainst_5.1 (by decide) ?_
            refine pV hC hK hl hP hD (c_T_at l G bsayings (nI kP) 4 16 8 bsayingsc kbsayings fbsayings (hkbsayings) (by omega) (by omega)) si_X9_48 [2, 3] sm_2_3 fm_2_3 nd_2_3 rfl rfl rfl rfl rfl (Nat.le_of_ble_eq_true rfl) rm_5_1_3 ⟨by first | exact Nat.le_of_ble_eq_true rfl | exact Nat.zero_le _, by first | exact Nat.le_of_ble_eq_true rfl | exact Nat.zero_le _⟩ gX9_weightAgainst_5.2.1 (fun r3444 hr3444 => ?_)
            refine eqi (x1 := fbsayings (kP * 8 + 4)) (hr3444.trans (tatq (by omega) (by omega) (by decide) (by decide) rfl)) ?_
            refine lv_iadd hx hb gX9_weightAgainst_5.2.2.1 ?_
            refine lv_istore (lv' := [(5, .int (su + (fbsayings (kP * 8 + 4)))), (8, .int 0), (7, .int 0), (6, .int (nI kP)), (0, .ref h0), (1, .int hh), (2, .int (nI je)), (3, .int (nI jp)), (4, .int (IVW fbpapers td vd vl kbpapers))]) hx hb gX9_weightAgainst_5.2.2.2.1 hl (by decide) rfl (fun ls hl => ?_)
            refine lv_iinc (v := nI (kP + 1)) (lv' := [(6, .int (nI (kP + 1))), (5, .int (su + (fbsayings (kP * 8 + 4)))), (8, .int 0), (7, .int 0), (0, .ref h0), (1, .int hh), (2, .int (nI je)), (3, .int (nI jp)), (4, .int (IVW fbpapers td vd vl kbpapers))]) hx hb gX9_weightAgainst_5.2.2.2.2.1 hl (k := 3) rfl (nI_1 _) (by decide) rfl (fun ls hl => ?_)
            refine lv_goto (tgt := 6) hx hb gX9_weightAgainst_5.2.2.2.2.2.1 (by decide) ?_
            have hst9 : su + (fbsayings (kP * 8 + 4)) = WGS (PWS fbsayings fbpapers td vd vl je jp) fbsayings hh (kP + 1) := WGS.y hsu ⟨a3437, Or.inr ⟨c_51_3440, c_75_3443⟩⟩
            exact ihP (kP + 1) (su + (fbsayings (kP * 8 + 4))) _ (by omega) (by first | assumption | exact Or.inl rfl | exact Or.inr rfl | exact rfl) (lv_sub hl [0, 1, 4, 5, 6, 7, 8] rfl)
          · refine lv_iconst (v := 1) hx hb gX9_weightAgainst_3.2.2.2.2.2.2.2.2.1 (by decide) ?_
            refine lv_goto (tgt := 83) hx hb gX9_weightAgainst_3.2.2.2.2.2.2.2.2.2 (by decide) ?_
            refine lv_istore (lv' := [(8, .int 1), (7, .int 0), (6, .int (nI kP)), (5, .int su), (0, .ref h0), (1, .int hh), (2, .int (nI je)), (3, .int (nI jp)), (4, .int (IVW fbpapers td vd vl kbpapers))]) hx hb gX9_weightAgainst_4.2.1 hl (by decide) rfl (fun ls hl => ?_)
            refine lv_iload hx hb gX9_weightAgainst_4.2.2.1 (lv_at1 hl) ?_
            refine lv_iload hx hb gX9_weightAgainst_4.2.2.2.1 (lv_at0 hl) ?_
            refine lv_icmp_ne (tgt := 110) hx hb gX9_weightAgainst_4.2.2.2.2.1 (by decide) (fun _ => ?_) (fun c9 => absurd c9 (by decide))
            refine lv_iinc (v := nI (kP + 1)) (lv' := [(6, .int (nI (kP + 1))), (8, .int 1), (7, .int 0), (5, .int su), (0, .ref h0), (1, .int hh), (2, .int (nI je)), (3, .int (nI jp)), (4, .int (IVW fbpapers td vd vl kbpapers))]) hx hb gX9_weightAgainst_5.2.2.2.2.1 hl (k := 2) rfl (nI_1 _) (by decide) rfl (fun ls hl => ?_)
            refine lv_goto (tgt := 6) hx hb gX9_weightAgainst_5.2.2.2.2.2.1 (by decide) ?_
            have hst9 : su = WGS (PWS fbsayings fbpapers td vd vl je jp) fbsayings hh (kP + 1) := WGS.n hsu (fun h9 => h9.2.elim (fun h8 => c_51_3440 h8.1) (fun h8 => c_75_3443 h8.2))
            exact ihP (kP + 1) su _ (by omega) (by first | assumption | exact Or.inl rfl | exact Or.inr rfl | exact rfl) (lv_sub hl [0, 3, 4, 5, 6, 7, 8] rfl)
        · refine lv_iconst (v := 1) hx hb gX9_weightAgainst_2.2.2.2.2.2.2.1 (by decide) ?_
          refine lv_goto (tgt := 59) hx hb gX9_weightAgainst_2.2.2.2.2.2.2.2.1 (by decide) ?_
          refine lv_istore (lv' := [(7, .int 1), (6, .int (nI kP)), (5, .int su), (0, .ref h0), (1, .int hh), (2, .int (nI je)), (3, .int (nI jp)), (4, .int (IVW fbpapers td vd vl kbpapers))]) hx hb gX9_weightAgainst_2.2.2.2.2.2.2.2.2.2 hl (by decide) rfl (fun ls hl => ?_)
          refine lv_aload_n hx hb gX9_weightAgainst_3.1 rfl (lv_at3 hl) ?_
          refine gf_X9_9 hC rfl hK hP 0 rfl rfl gX9_weightAgainst_3.2.1 ?_
          refine gf_X9_42 hC rfl hK hP 1 rfl rfl gX9_weightAgainst_3.2.2.1 ?_
          refine lv_iload hx hb gX9_weightAgainst_3.2.2.2.1 (lv_at1 hl) ?_
          refine lv_iconst (v := 3) hx hb gX9_weightAgainst_3.2.2.2.2.1 (by decide) ?_
          refine pV hC hK hl hP hD (c_T_at l G bsayings (nI kP) 3 16 8 bsayingsc kbsayings fbsayings (hkbsayings) (by omega) (by omega)) si_X9_48 [2, 3] sm_2_3 fm_2_3 nd_2_3 rfl rfl rfl rfl rfl (Nat.le_of_ble_eq_true rfl) rm_5_1_3 ⟨by first | exact Nat.le_of_ble_eq_true rfl | exact Nat.zero_le _, by first | exact Nat.le_of_ble_eq_true rfl | exact Nat.zero_le _⟩ gX9_weightAgainst_3.2.2.2.2.2.1 (fun r3446 hr3446 => ?_)
          refine eqi (x1 := fbsayings (kP * 8 + 3)) (hr3446.trans (tatq (by omega) (by omega) (by decide) (by decide) rfl)) ?_
          refine lv_iload_n hx hb gX9_weightAgainst_3.2.2.2.2.2.2.1 rfl (lv_at4 hl) ?_
          refine lv_icmp_ge (tgt := 82) hx hb gX9_weightAgainst_3.2.2.2.2.2.2.2.1 (by decide) (fun c_75_3448 => ?_) (fun c_75_3448 => ?_)
          · refine lv_iconst (v := 0) hx hb gX9_weightAgainst_4.1 (by decide) ?_
            refine lv_istore (lv' := [(8, .int 0), (7, .int 1), (6, .int (nI kP)), (5, .int su), (0, .ref h0), (1, .int hh), (2, .int (nI je)), (3, .int (nI jp)), (4, .int (IVW fbpapers td vd vl kbpapers))]) hx hb gX9_weightAgainst_4.2.1 hl (by decide) rfl (fun ls hl => ?_)
            refine lv_iload hx hb gX9_weightAgainst_4.2.2.1 (lv_at1 hl) ?_
            refine lv_iload hx hb gX9_weightAgainst_4.2.2.2.1 (lv_at0 hl) ?_
            refine lv_icmp_ne (tgt := 110) hx hb gX9_weightAgainst_4.2.2.2.2.1 (by decide) (fun _ => ?_) (fun c9 => absurd c9 (by decide))
            refine lv_iinc (v := nI (kP + 1)) (lv' := [(6, .int (nI (kP + 1))), (8, .int 0), (7, .int 1), (5, .int su), (0, .ref h0), (1, .int hh), (2, .int (nI je)), (3, .int (nI jp)), (4, .int (IVW fbpapers td vd vl kbpapers))]) hx hb gX9_weightAgainst_5.2.2.2.2.1 hl (k := 2) rfl (nI_1 _) (by decide) rfl (fun ls hl => ?_)
            refine lv_goto (tgt := 6) hx hb gX9_weightAgainst_5.2.2.2.2.2.1 (by decide) ?_
            have hst9 : su = WGS (PWS fbsayings fbpapers td vd vl je jp) fbsayings hh (kP + 1) := WGS.n hsu (fun h9 => h9.2.elim (fun h8 => Int32.not_lt.mpr c_75_3448 h8.2) (fun h8 => h8.1 c_51_3440))
            exact ihP (kP + 1) su _ (by omega) (by first | assumption | exact Or.inl rfl | exact Or.inr rfl | exact rfl) (lv_sub hl [0, 3, 4, 5, 6, 7, 8] rfl)
          · refine lv_iconst (v := 1) hx hb gX9_weightAgainst_3.2.2.2.2.2.2.2.2.1 (by decide) ?_
            refine lv_goto (tgt := 83) hx hb gX9_weightAgainst_3.2.2.2.2.2.2.2.2.2 (by decide) ?_
            refine lv_istore (lv' := [(8, .int 1), (7, .int 1), (6, .int (nI kP)), (5, .int su), (0, .ref h0), (1, .int hh), (2, .int (nI je)), (3, .int (nI jp)), (4, .int (IVW fbpapers td vd vl kbpapers))]) hx hb gX9_weightAgainst_4.2.1 hl (by decide) rfl (fun ls hl => ?_)
            refine lv_iload hx hb gX9_weightAgainst_4.2.2.1 (lv_at1 hl) ?_
            refine lv_iload hx hb gX9_weightAgainst_4.2.2.2.1 (lv_at0 hl) ?_
            refine lv_icmp_ne (tgt := 110) hx hb gX9_weightAgainst_4.2.2.2.2.1 (by decide) (fun c9 => absurd (by decide) c9) (fun _ => ?_)
            refine lv_iload hx hb gX9_weightAgainst_4.2.2.2.2.2.1 (lv_at3 hl) ?_
            refine lv_aload_n hx hb gX9_weightAgainst_4.2.2.2.2.2.2.1 rfl (lv_at4 hl) ?_
            refine gf_X9_9 hC rfl hK hP 0 rfl rfl gX9_weightAgainst_4.2.2.2.2.2.2.2.1 ?_
            refine gf_X9_42 hC rfl hK hP 1 rfl rfl gX9_weightAgainst_4.2.2.2.2.2.2.2.2.1 ?_
            refine lv_iload hx hb gX9_weightAgainst_4.2.2.2.2.2.2.2.2.2 (lv_at2 hl) ?_
            refine lv_iconst (v := 4) hx hb gX9_weightAgainst_5.1 (by decide) ?_
            refine pV hC hK hl hP hD (c_T_at l G bsayings (nI kP) 4 16 8 bsayingsc kbsayings fbsayings (hkbsayings) (by omega) (by omega)) si_X9_48 [2, 3] sm_2_3 fm_2_3 nd_2_3 rfl rfl rfl rfl rfl (Nat.le_of_ble_eq_true rfl) rm_5_1_3 ⟨by first | exact Nat.le_of_ble_eq_true rfl | exact Nat.zero_le _, by first | exact Nat.le_of_ble_eq_true rfl | exact Nat.zero_le _⟩ gX9_weightAgainst_5.2.1 (fun r3449 hr3449 => ?_)
            refine eqi (x1 := fbsayings (kP * 8 + 4)) (hr3449.trans (tatq (by omega) (by omega) (by decide) (by decide) rfl)) ?_
            refine lv_iadd hx hb gX9_weightAgainst_5.2.2.1 ?_
            refine lv_istore (lv' := [(5, .int (su + (fbsayings (kP * 8 + 4)))), (8, .int 1), (7, .int 1), (6, .int (nI kP)), (0, .ref h0), (1, .int hh), (2, .int (nI je)), (3, .int (nI jp)), (4, .int (IVW fbpapers td vd vl kbpapers))]) hx hb gX9_weightAgainst_5.2.2.2.1 hl (by decide) rfl (fun ls hl => ?_)
            refine lv_iinc (v := nI (kP + 1)) (lv' := [(6, .int (nI (kP + 1))), (5, .int (su + (fbsayings (kP * 8 + 4)))), (8, .int 1), (7, .int 1), (0, .ref h0), (1, .int hh), (2, .int (nI je)), (3, .int (nI jp)), (4, .int (IVW fbpapers td vd vl kbpapers))]) hx hb gX9_weightAgainst_5.2.2.2.2.1 hl (k := 3) rfl (nI_1 _) (by decide) rfl (fun ls hl => ?_)
            refine lv_goto (tgt := 6) hx hb gX9_weightAgainst_5.2.2.2.2.2.1 (by decide) ?_
            have hst9 : su + (fbsayings (kP * 8 + 4)) = WGS (PWS fbsayings fbpapers td vd vl je jp) fbsayings hh (kP + 1) := WGS.y hsu ⟨a3437, Or.inl ⟨c_51_3440, Int32.not_le.mp c_75_3448⟩⟩
            exact ihP (kP + 1) (su + (fbsayings (kP * 8 + 4))) _ (by omega) (by first | assumption | exact Or.inl rfl | exact Or.inr rfl | exact rfl) (lv_sub hl [0, 1, 4, 5, 6, 7, 8] rfl)
      · refine lv_if_ne (tgt := 37) hx hb gX9_weightAgainst_1.2.2.2.2.2.2.1 (by decide) (fun c9 => absurd (by decide) c9) (fun _ => ?_)
        refine lv_goto (tgt := 110) hx hb gX9_weightAgainst_1.2.2.2.2.2.2.2.1 (by decide) ?_
        refine lv_iinc (v := nI (kP + 1)) (lv' := [(6, .int (nI (kP + 1))), (5, .int su), (0, .ref h0), (1, .int hh), (2, .int (nI je)), (3, .int (nI jp)), (4, .int (IVW fbpapers td vd vl kbpapers))]) hx hb gX9_weightAgainst_5.2.2.2.2.1 hl (k := 0) rfl (nI_1 _) (by decide) rfl (fun ls hl => ?_)
        refine lv_goto (tgt := 6) hx hb gX9_weightAgainst_5.2.2.2.2.2.1 (by decide) ?_
        have hst9 : su = WGS (PWS fbsayings fbpapers td vd vl je jp) fbsayings hh (kP + 1) := WGS.n hsu (fun h9 => a3437 h9.1)
        exact ihP (kP + 1) su _ (by omega) (by first | assumption | exact Or.inl rfl | exact Or.inr rfl | exact rfl) (lv_sub hl [0, 1, 2, 3, 4, 5, 6] rfl)
  exact keyP kbsayings 0 0 _ (by omega) (by first | assumption | exact Or.inl rfl | exact Or.inr rfl | exact rfl) (lv_sub hl [0, 1, 2, 3, 4, 5, 6] rfl)
def K_c_weighX (l : Launch) (G : GG) (K9 : Nat → Nat → Int → Prop) (V9 : Nat → Prop) (h0 : Nat) (je : Nat) (jp : Nat) (bb : Nat) (sg : Nat) (tf : Int32) (tt9 : Int32) (tl : Int32) (tbv : Int32) (clk : Nat) (fi : Nat) (la : Nat) (ml : Nat) (mm : Nat) (sl : Nat) (sm : Nat) (scl : Int32) (fla : Nat → Int32) (fml : Nat → Int32) (fmm : Nat → Int32) (fsl : Nat → Int32) (fsm : Nat → Int32) (bpersons : Nat) (bpapers : Nat) (bstamps : Nat) (bversions : Nat) (blines : Nat) (bsteps : Nat) (bsayings : Nat) (bfindings : Nat) (bwarnings : Nat) (bquestions : Nat) (td : Int32) (vd : Int32) (vl : Int32) (gp : Int32) (bpapersc : Nat) (kbpapers : Nat) (fbpapers : Nat → Int32) (bpersonsc : Nat) (kbpersons : Nat) (fbpersons : Nat → Int32) (bsayingsc : Nat) (kbsayings : Nat) (fbsayings : Nat → Int32) (fbstamps : Nat → Int32) (kbstamps : Nat) : Prop := MV l G yX9_weigh cX9_weigh 7 6 0 0 [.ref h0, .int (nI je), .int (nI jp), .int (IVW fbpapers td vd vl kbpapers)] [(h0, oX9 bb sg tf tt9 tl tbv), (sg, oX7 bb clk fi la ml mm sl sm scl), (la, iA G 12 fla), (ml, iA G 12 fml), (mm, iA G 12 fmm), (sl, iA G 12 fsl), (sm, iA G 12 fsm), (bb, oX0 bpersons bpapers bstamps bversions blines bsteps bsayings bfindings bwarnings bquestions td vd vl gp), (bpapers, oX8 12 6 bpapersc (nI kbpapers)), (bpapersc, iA G 72 fbpapers), (bpersons, oX8 10 2 bpersonsc (nI kbpersons)), (bpersonsc, iA G 20 fbpersons), (bsayings, oX8 16 8 bsayingsc (nI kbsayings)), (bsayingsc, iA G 128 fbsayings)] (fun u : Int32 × Int32 × Int32 × Int32 => HIQ K9 fbstamps V9 (fbpapers (jp * 6 + 0)) (fbpapers (jp * 6 + 1)) (fbpersons (je * 2 + 1)) kbstamps jp je u.1 u.2.1 ∧ BST (fun h9 => WGS (PWS fbsayings fbpapers td vd vl je jp) fbsayings h9 kbsayings) u.1 u.2.1 u.2.2.2 u.2.2.1) (fun u : Int32 × Int32 × Int32 × Int32 => [(h0, oX9 bb sg u.1 u.2.1 u.2.2.1 u.2.2.2), (sg, oX7 bb clk fi la ml mm sl sm scl), (la, iA G 12 fla), (ml, iA G 12 fml), (mm, iA G 12 fmm), (sl, iA G 12 fsl), (sm, iA G 12 fsm), (bb, oX0 bpersons bpapers bstamps bversions blines bsteps bsayings bfindings bwarnings bquestions td vd vl gp), (bpapers, oX8 12 6 bpapersc (nI kbpapers)), (bpapersc, iA G 72 fbpapers), (bpersons, oX8 10 2 bpersonsc (nI kbpersons)), (bpersonsc, iA G 20 fbpersons), (bsayings, oX8 16 8 bsayingsc (nI kbsayings)), (bsayingsc, iA G 128 fbsayings)])
set_option maxHeartbeats 4000000 in
set_option maxRecDepth 100000 in
theorem c_weighX (l : Launch) (G : GG) (K9 : Nat → Nat → Int → Prop) (V9 : Nat → Prop) (h0 : Nat) (je : Nat) (jp : Nat) (bb : Nat) (sg : Nat) (tf : Int32) (tt9 : Int32) (tl : Int32) (tbv : Int32) (clk : Nat) (fi : Nat) (la : Nat) (ml : Nat) (mm : Nat) (sl : Nat) (sm : Nat) (scl : Int32) (fla : Nat → Int32) (fml : Nat → Int32) (fmm : Nat → Int32) (fsl : Nat → Int32) (fsm : Nat → Int32) (bpersons : Nat) (bpapers : Nat) (bstamps : Nat) (bversions : Nat) (blines : Nat) (bsteps : Nat) (bsayings : Nat) (bfindings : Nat) (bwarnings : Nat) (bquestions : Nat) (td : Int32) (vd : Int32) (vl : Int32) (gp : Int32) (bpapersc : Nat) (kbpapers : Nat) (fbpapers : Nat → Int32) (bpersonsc : Nat) (kbpersons : Nat) (fbpersons : Nat → Int32) (bsayingsc : Nat) (kbsayings : Nat) (fbsayings : Nat → Int32) (fbstamps : Nat → Int32) (kbstamps : Nat) (hkbpapers : kbpapers ≤ 12) (hkbpersons : kbpersons ≤ 10) (hkbsayings : kbsayings ≤ 16) (hSP : SPI fbsayings kbsayings kbpapers) (hSO : SPO fbsayings kbsayings kbpersons) (hSL : PSL fbpersons) (hsg : SGQ K9 fbstamps V9 kbstamps scl fla fml fmm fsl fsm) (hSV : SVL fbstamps kbstamps) (hjp : jp < kbpapers) (hje : je < kbpersons) : K_c_weighX l G K9 V9 h0 je jp bb sg tf tt9 tl tbv clk fi la ml mm sl sm scl fla fml fmm fsl fsm bpersons bpapers bstamps bversions blines bsteps bsayings bfindings bwarnings bquestions td vd vl gp bpapersc kbpapers fbpapers bpersonsc kbpersons fbpersons bsayingsc kbsayings fbsayings fbstamps kbstamps := by
  refine MV.start (by decide +kernel) (Nat.le_of_ble_eq_true rfl) ?_
  intro p e s m below meth c A ls hC hK hP hD hS hA hl
  refine absQ (fun Q0 hQ0 => ?_)
  have hl : lv_has ls 7 [(0, .ref h0), (1, .int (nI je)), (2, .int (nI jp)), (3, .int (IVW fbpapers td vd vl kbpapers))] := hl
  refine Kan8 hC (fun hx hb hr hml hB hown hlocks hnm => ?_)
  refine lv_aload_n hx hb gX9_weigh_0.1 rfl (lv_at0 hl) ?_
  refine lv_iload_n hx hb gX9_weigh_0.2.1 rfl (lv_at1 hl) ?_
  refine lv_iload_n hx hb gX9_weigh_0.2.2.1 rfl (lv_at2 hl) ?_
  refine vV (wr := [(bsayings, oX8 16 8 bsayingsc (nI kbsayings)), (bsayingsc, iA G 128 fbsayings)]) hC hK hl hP hD hS hA (c_boundX l G K9 V9 h0 je jp bb sg tf tt9 tl tbv clk fi la ml mm sl sm scl fla fml fmm fsl fsm bpersons bpapers bstamps bversions blines bsteps bsayings bfindings bwarnings bquestions td vd vl gp bpapersc kbpapers fbpapers bpersonsc kbpersons fbpersons fbstamps kbstamps (hkbpapers) (hkbpersons) (hsg) (hjp) (hje)) si_X9_57 [0, 1, 2, 3, 4, 5, 6, 7, 8, 9, 10, 11] [12, 13] sm_0_1_2_3_4_5_6_7_8_9_10_11 fm_0_1_2_3_4_5_6_7_8_9_10_11 nd_0_1_2_3_4_5_6_7_8_9_10_11 sm_12_13 nd_12_13 dj_0_1_2_3_4_5_6_7_8_9_10_11__12_13 rfl rfl rfl rfl rfl (Nat.le_of_ble_eq_true rfl) rm_6_4_4 ⟨Nat.le_of_ble_eq_true rfl, Nat.le_of_ble_eq_true rfl⟩ gX9_weigh_0.2.2.2.1 (Ktu2 fun tf13453 tt13454 => ?_)
  intro H locs hr3451 hP hD hS
  try dsimp only at hr3451
  refine Kpdr (ws := [(bsayings, oX8 16 8 bsayingsc (nI kbsayings)), (bsayingsc, iA G 128 fbsayings), (h0, oX9 bb sg tf13453 tt13454 tl tbv), (sg, oX7 bb clk fi la ml mm sl sm scl), (la, iA G 12 fla), (ml, iA G 12 fml), (mm, iA G 12 fmm), (sl, iA G 12 fsl), (sm, iA G 12 fsm), (bb, oX0 bpersons bpapers bstamps bversions blines bsteps bsayings bfindings bwarnings bquestions td vd vl gp), (bpapers, oX8 12 6 bpapersc (nI kbpapers)), (bpapersc, iA G 72 fbpapers), (bpersons, oX8 10 2 bpersonsc (nI kbpersons)), (bpersonsc, iA G 20 fbpersons)]) hP hD (fun hP hD => ?_)
  have w3455 := hr3451
  refine lv_aload_n hx hb gX9_weigh_0.2.2.2.2.1 rfl (lv_at0 hl) ?_
  refine lv_aload_n hx hb gX9_weigh_0.2.2.2.2.2.1 rfl (lv_at0 hl) ?_
  refine gf_X9_19 hC rfl hK hP 2 rfl rfl gX9_weigh_0.2.2.2.2.2.2.1 ?_
  refine pf_X9_29 hC rfl hK hP hD hS 2 (ws' := [(bsayings, oX8 16 8 bsayingsc (nI kbsayings)), (bsayingsc, iA G 128 fbsayings), (h0, oX9 bb sg tf13453 tt13454 tl tf13453), (sg, oX7 bb clk fi la ml mm sl sm scl), (la, iA G 12 fla), (ml, iA G 12 fml), (mm, iA G 12 fmm), (sl, iA G 12 fsl), (sm, iA G 12 fsm), (bb, oX0 bpersons bpapers bstamps bversions blines bsteps bsayings bfindings bwarnings bquestions td vd vl gp), (bpapers, oX8 12 6 bpapersc (nI kbpapers)), (bpapersc, iA G 72 fbpapers), (bpersons, oX8 10 2 bpersonsc (nI kbpersons)), (bpersonsc, iA G 20 fbpersons)]) rfl (Nat.le_of_ble_eq_true rfl) rfl rfl rfl gX9_weigh_0.2.2.2.2.2.2.2.1 (fun H locs hP hD hS => ?_)
  refine lv_aload_n hx hb gX9_weigh_0.2.2.2.2.2.2.2.2.1 rfl (lv_at0 hl) ?_
  refine lv_aload_n hx hb gX9_weigh_0.2.2.2.2.2.2.2.2.2 rfl (lv_at0 hl) ?_
  refine lv_aload_n hx hb gX9_weigh_1.1 rfl (lv_at0 hl) ?_
  refine gf_X9_19 hC rfl hK hP 2 rfl rfl gX9_weigh_1.2.1 ?_
  refine lv_iload_n hx hb gX9_weigh_1.2.2.1 rfl (lv_at1 hl) ?_
  refine lv_iload_n hx hb gX9_weigh_1.2.2.2.1 rfl (lv_at2 hl) ?_
  refine lv_iload_n hx hb gX9_weigh_1.2.2.2.2.1 rfl (lv_at3 hl) ?_
  refine pV hC hK hl hP hD (c_weightAgainstX l G h0 tf13453 je jp bb sg tf13453 tt13454 tl tf13453 bpersons bpapers bstamps bversions blines bsteps bsayings bfindings bwarnings bquestions td vd vl gp bsayingsc kbsayings fbsayings bpapersc kbpapers fbpapers (hkbsayings) (hkbpapers) (hSP)) si_X9_61 [2, 9, 0, 1, 10, 11] sm_2_9_0_1_10_11 fm_2_9_0_1_10_11 nd_2_9_0_1_10_11 rfl rfl rfl rfl rfl (Nat.le_of_ble_eq_true rfl) rm_6_5_9 ⟨by first | exact Nat.le_of_ble_eq_true rfl | exact Nat.zero_le _, by first | exact Nat.le_of_ble_eq_true rfl | exact Nat.zero_le _⟩ gX9_weigh_1.2.2.2.2.2.1 (Keqr ?_)
  refine pf_X9_26 hC rfl hK hP hD hS 2 (ws' := [(bsayings, oX8 16 8 bsayingsc (nI kbsayings)), (bsayingsc, iA G 128 fbsayings), (h0, oX9 bb sg tf13453 tt13454 (WGS (PWS fbsayings fbpapers td vd vl je jp) fbsayings tf13453 kbsayings) tf13453), (sg, oX7 bb clk fi la ml mm sl sm scl), (la, iA G 12 fla), (ml, iA G 12 fml), (mm, iA G 12 fmm), (sl, iA G 12 fsl), (sm, iA G 12 fsm), (bb, oX0 bpersons bpapers bstamps bversions blines bsteps bsayings bfindings bwarnings bquestions td vd vl gp), (bpapers, oX8 12 6 bpapersc (nI kbpapers)), (bpapersc, iA G 72 fbpapers), (bpersons, oX8 10 2 bpersonsc (nI kbpersons)), (bpersonsc, iA G 20 fbpersons)]) rfl (Nat.le_of_ble_eq_true rfl) rfl rfl rfl gX9_weigh_1.2.2.2.2.2.2.1 (fun H locs hP hD hS => ?_)
  refine lv_iconst (v := 0) hx hb gX9_weigh_1.2.2.2.2.2.2.2.1 (by decide) ?_
  refine lv_istore (lv' := [(4, .int 0), (0, .ref h0), (1, .int (nI je)), (2, .int (nI jp)), (3, .int (IVW fbpapers td vd vl kbpapers))]) hx hb gX9_weigh_1.2.2.2.2.2.2.2.2.1 hl (by decide) rfl (fun ls hl => ?_)
  have hle9 := HIQ.le hSV (hSL je (by omega)).1 (hSL je (by omega)).2 w3455
  have keyP : ∀ (nP kP : Nat) (wl : Int32) (wb : Int32) (H : Heap) (locs : List Loc) (ls : Array Slot), kP + nP = kbsayings → (LBT (fun h9 => WGS (PWS fbsayings fbpapers td vd vl je jp) fbsayings h9 kbsayings) (CAN (PWS fbsayings fbpapers td vd vl je jp) fbsayings tf13453 tt13454 kP) wb wl) → va_PD G A [(bsayings, oX8 16 8 bsayingsc (nI kbsayings)), (bsayingsc, iA G 128 fbsayings), (h0, oX9 bb sg tf13453 tt13454 wl wb), (sg, oX7 bb clk fi la ml mm sl sm scl), (la, iA G 12 fla), (ml, iA G 12 fml), (mm, iA G 12 fmm), (sl, iA G 12 fsl), (sm, iA G 12 fsm), (bb, oX0 bpersons bpapers bstamps bversions blines bsteps bsayings bfindings bwarnings bquestions td vd vl gp), (bpapers, oX8 12 6 bpapersc (nI kbpapers)), (bpapersc, iA G 72 fbpapers), (bpersons, oX8 10 2 bpersonsc (nI kbpersons)), (bpersonsc, iA G 20 fbpersons)] H → va_S A s.heap H locs → lv_has ls 7 [(4, .int (nI kP)), (0, .ref h0), (1, .int (nI je)), (2, .int (nI jp)), (3, .int (IVW fbpapers td vd vl kbpapers))] → W p l e (RM 6 0 0) s m ([.ref h0, .int (nI je), .int (nI jp), .int (IVW fbpapers td vd vl kbpapers)] : List Value).toArray below meth c H locs 0 0 Q0 (F0 m 32 ls []) := by
    intro nP
    induction nP with
    | zero =>
      intro kP wl wb H locs ls hkP hlb hPD hS hl
      refine Kan2 hPD (fun hP hD => ?_)
      obtain rfl : kbsayings = kP := by omega
      have hl : lv_has ls 7 [(4, .int (nI kbsayings)), (0, .ref h0), (1, .int (nI je)), (2, .int (nI jp)), (3, .int (IVW fbpapers td vd vl kbpapers))] := hl
      refine lv_iload hx hb gX9_weigh_1.2.2.2.2.2.2.2.2.2 (lv_at0 hl) ?_
      refine lv_aload_n hx hb gX9_weigh_2.1 rfl (lv_at1 hl) ?_
      refine gf_X9_9 hC rfl hK hP 2 rfl rfl gX9_weigh_2.2.1 ?_
      refine gf_X9_42 hC rfl hK hP 9 rfl rfl gX9_weigh_2.2.2.1 ?_
      refine pV hC hK hl hP hD (c_T_count l G bsayings 16 8 bsayingsc kbsayings) si_X9_65 [0] sm_0 fm_0 nd_0 rfl rfl rfl rfl rfl (Nat.le_of_ble_eq_true rfl) rm_6_1_1 ⟨by first | exact Nat.le_of_ble_eq_true rfl | exact Nat.zero_le _, by first | exact Nat.le_of_ble_eq_true rfl | exact Nat.zero_le _⟩ gX9_weigh_2.2.2.2.1 (Keqr ?_)
      refine lv_icmp_ge (tgt := 154) hx hb gX9_weigh_2.2.2.2.2.1 (by decide) (fun _ => ?_) (fun c9 => absurd (Int32.le_refl _) c9)
      refine toQ hQ0 ?_
      exact RV hC hP hD hS [2, 3, 4, 5, 6, 7, 8, 9, 10, 11, 12, 13, 0, 1] (tf13453, tt13454, wl, wb) rfl rfl (by decide) (⟨w3455, LBT.bst (fun s9 hs9 => (hSO s9 hs9).2.1) hle9.1 hle9.2.1 hle9.2.2 hlb⟩) gX9_weigh_7.2.2.2.2.2.2.2
    | succ nP ihP =>
      intro kP wl wb H locs ls hkP hlb hPD hS hl
      refine Kan2 hPD (fun hP hD => ?_)
      refine lv_iload hx hb gX9_weigh_1.2.2.2.2.2.2.2.2.2 (lv_at0 hl) ?_
      refine lv_aload_n hx hb gX9_weigh_2.1 rfl (lv_at1 hl) ?_
      refine gf_X9_9 hC rfl hK hP 2 rfl rfl gX9_weigh_2.2.1 ?_
      refine gf_X9_42 hC rfl hK hP 9 rfl rfl gX9_weigh_2.2.2.1 ?_
      refine pV hC hK hl hP hD (c_T_count l G bsayings 16 8 bsayingsc kbsayings) si_X9_65 [0] sm_0 fm_0 nd_0 rfl rfl rfl rfl rfl (Nat.le_of_ble_eq_true rfl) rm_6_1_1 ⟨by first | exact Nat.le_of_ble_eq_true rfl | exact Nat.zero_le _, by first | exact Nat.le_of_ble_eq_true rfl | exact Nat.zero_le _⟩ gX9_weigh_2.2.2.2.1 (Keqr ?_)
      refine lv_icmp_ge (tgt := 154) hx hb gX9_weigh_2.2.2.2.2.1 (by decide) (fun c9 => absurd c9 (nI_ge (a := kP) (b := kbsayings) (by omega) (by omega))) (fun _ => ?_)
      refine lv_aload_n hx hb gX9_weigh_2.2.2.2.2.2.1 rfl (lv_at1 hl) ?_
      refine gf_X9_9 hC rfl hK hP 2 rfl rfl gX9_weigh_2.2.2.2.2.2.2.1 ?_
      refine gf_X9_42 hC rfl hK hP 9 rfl rfl gX9_weigh_2.2.2.2.2.2.2.2.1 ?_
      refine lv_iload hx hb gX9_weigh_2.2.2.2.2.2.2.2.2.1 (lv_at0 hl) ?_
      refine lv_iconst (v := 3) hx hb gX9_weigh_2.2.2.2.2.2.2.2.2.2 (by decide) ?_
      refine pV hC hK hl hP hD (c_T_at l G bsayings (nI kP) 3 16 8 bsayingsc kbsayings fbsayings (hkbsayings) (by omega) (by omega)) si_X9_48 [0, 1] sm_0_1 fm_0_1 nd_0_1 rfl rfl rfl rfl rfl (Nat.le_of_ble_eq_true rfl) rm_6_1_3 ⟨by first | exact Nat.le_of_ble_eq_true rfl | exact Nat.zero_le _, by first | exact Nat.le_of_ble_eq_true rfl | exact Nat.zero_le _⟩ gX9_weigh_3.1 (fun r3462 hr3462 => ?_)
      refine eqi (x1 := fbsayings (kP * 8 + 3)) (hr3462.trans (tatq (by omega) (by omega) (by decide) (by decide) rfl)) ?_
      refine lv_iconst (v := 1) hx hb gX9_weigh_3.2.1 (by decide) ?_
      refine lv_iadd hx hb gX9_weigh_3.2.2.1 ?_
      refine lv_istore (lv' := [(5, .int ((fbsayings (kP * 8 + 3)) + 1)), (4, .int (nI kP)), (0, .ref h0), (1, .int (nI je)), (2, .int (nI jp)), (3, .int (IVW fbpapers td vd vl kbpapers))]) hx hb gX9_weigh_3.2.2.2.1 hl (by decide) rfl (fun ls hl => ?_)
      refine lv_iload hx hb gX9_weigh_3.2.2.2.2.1 (lv_at0 hl) ?_
      refine lv_aload_n hx hb gX9_weigh_3.2.2.2.2.2.1 rfl (lv_at2 hl) ?_
      refine gf_X9_19 hC rfl hK hP 2 rfl rfl gX9_weigh_3.2.2.2.2.2.2.1 ?_
      refine lv_aload_n hx hb gX9_weigh_3.2.2.2.2.2.2.2.1 rfl (lv_at2 hl) ?_
      refine gf_X9_23 hC rfl hK hP 2 rfl rfl gX9_weigh_3.2.2.2.2.2.2.2.2.1 ?_
      refine pSN hC hK hl (c_within l G ((fbsayings (kP * 8 + 3)) + 1) tf13453 tt13454) si_X9_69 rfl rfl (Nat.le_of_ble_eq_true rfl) rm_6_1_3 ⟨by first | exact Nat.le_of_ble_eq_true rfl | exact Nat.zero_le _, by first | exact Nat.le_of_ble_eq_true rfl | exact Nat.zero_le _⟩ gX9_weigh_3.2.2.2.2.2.2.2.2.2 (Kors (Keqa fun a3465 => ?_) (Keqa fun a3465 => ?_))
      · refine lv_if_eq (tgt := 148) hx hb gX9_weigh_4.1 (by decide) (fun c9 => absurd c9 (by decide)) (fun _ => ?_)
        refine lv_aload_n hx hb gX9_weigh_4.2.1 rfl (lv_at2 hl) ?_
        refine lv_iload hx hb gX9_weigh_4.2.2.1 (lv_at1 hl) ?_
        refine lv_iload_n hx hb gX9_weigh_4.2.2.2.1 rfl (lv_at3 hl) ?_
        refine lv_iload_n hx hb gX9_weigh_4.2.2.2.2.1 rfl (lv_at4 hl) ?_
        refine lv_iload_n hx hb gX9_weigh_4.2.2.2.2.2.1 rfl (lv_at5 hl) ?_
        refine pV hC hK hl hP hD (c_isOnX l G h0 kP je jp bb sg tf13453 tt13454 wl wb bpersons bpapers bstamps bversions blines bsteps bsayings bfindings bwarnings bquestions td vd vl gp bsayingsc kbsayings fbsayings bpapersc kbpapers fbpapers (hkbsayings) (hkbpapers) (hSP) (by omega)) si_X9_73 [2, 9, 0, 1, 10, 11] sm_2_9_0_1_10_11 fm_2_9_0_1_10_11 nd_2_9_0_1_10_11 rfl rfl rfl rfl rfl (Nat.le_of_ble_eq_true rfl) rm_6_4_5 ⟨by first | exact Nat.le_of_ble_eq_true rfl | exact Nat.zero_le _, by first | exact Nat.le_of_ble_eq_true rfl | exact Nat.zero_le _⟩ gX9_weigh_4.2.2.2.2.2.2.1 (Kors (Keqa fun a3467 => ?_) (Keqa fun a3467 => ?_))
        · refine lv_if_ne (tgt := 95) hx hb gX9_weigh_4.2.2.2.2.2.2.2.1 (by decide) (fun _ => ?_) (fun c9 => absurd c9 (by decide))
          refine lv_aload_n hx hb gX9_weigh_4.2.2.2.2.2.2.2.2.2 rfl (lv_at2 hl) ?_
          refine lv_iload hx hb gX9_weigh_5.1 (lv_at0 hl) ?_
          refine lv_iload_n hx hb gX9_weigh_5.2.1 rfl (lv_at3 hl) ?_
          refine lv_iload_n hx hb gX9_weigh_5.2.2.1 rfl (lv_at4 hl) ?_
          refine lv_iload_n hx hb gX9_weigh_5.2.2.2.1 rfl (lv_at5 hl) ?_
          refine pV hC hK hl hP hD (c_weightAgainstX l G h0 ((fbsayings (kP * 8 + 3)) + 1) je jp bb sg tf13453 tt13454 wl wb bpersons bpapers bstamps bversions blines bsteps bsayings bfindings bwarnings bquestions td vd vl gp bsayingsc kbsayings fbsayings bpapersc kbpapers fbpapers (hkbsayings) (hkbpapers) (hSP)) si_X9_61 [2, 9, 0, 1, 10, 11] sm_2_9_0_1_10_11 fm_2_9_0_1_10_11 nd_2_9_0_1_10_11 rfl rfl rfl rfl rfl (Nat.le_of_ble_eq_true rfl) rm_6_5_9 ⟨by first | exact Nat.le_of_ble_eq_true rfl | exact Nat.zero_le _, by first | exact Nat.le_of_ble_eq_true rfl | exact Nat.zero_le _⟩ gX9_weigh_5.2.2.2.2.1 (Keqr ?_)
          refine lv_istore (lv' := [(6, .int (WGS (PWS fbsayings fbpapers td vd vl je jp) fbsayings ((fbsayings (kP * 8 + 3)) + 1) kbsayings)), (5, .int ((fbsayings (kP * 8 + 3)) + 1)), (4, .int (nI kP)), (0, .ref h0), (1, .int (nI je)), (2, .int (nI jp)), (3, .int (IVW fbpapers td vd vl kbpapers))]) hx hb gX9_weigh_5.2.2.2.2.2.1 hl (by decide) rfl (fun ls hl => ?_)
          refine lv_iload hx hb gX9_weigh_5.2.2.2.2.2.2.1 (lv_at0 hl) ?_
          refine lv_aload_n hx hb gX9_weigh_5.2.2.2.2.2.2.2.1 rfl (lv_at3 hl) ?_
          refine gf_X9_26 hC rfl hK hP 2 rfl rfl gX9_weigh_5.2.2.2.2.2.2.2.2.1 ?_
          refine lv_icmp_gt (tgt := 148) hx hb gX9_weigh_5.2.2.2.2.2.2.2.2.2 (by decide) (fun c_112_3470 => ?_) (fun c_112_3470 => ?_)
          · refine lv_iinc (v := nI (kP + 1)) (lv' := [(4, .int (nI (kP + 1))), (6, .int (WGS (PWS fbsayings fbpapers td vd vl je jp) fbsayings ((fbsayings (kP * 8 + 3)) + 1) kbsayings)), (5, .int ((fbsayings (kP * 8 + 3)) + 1)), (0, .ref h0), (1, .int (nI je)), (2, .int (nI jp)), (3, .int (IVW fbpapers td vd vl kbpapers))]) hx hb gX9_weigh_7.2.2.2.2.2.1 hl (k := 2) rfl (nI_1 _) (by decide) rfl (fun ls hl => ?_)
            refine lv_goto (tgt := 32) hx hb gX9_weigh_7.2.2.2.2.2.2.1 (by decide) ?_
            have hst9 : LBT (fun h9 => WGS (PWS fbsayings fbpapers td vd vl je jp) fbsayings h9 kbsayings) (CAN (PWS fbsayings fbpapers td vd vl je jp) fbsayings tf13453 tt13454 (kP + 1)) wb wl := hlb.more rfl c_112_3470
            exact ihP (kP + 1) wl wb _ _ _ (by omega) (by first | assumption | exact Or.inl rfl | exact Or.inr rfl | exact LBT.zero) (And.intro hP hD) hS (lv_sub hl [0, 3, 4, 5, 6] rfl)
          · refine lv_iload hx hb gX9_weigh_6.1 (lv_at0 hl) ?_
            refine lv_aload_n hx hb gX9_weigh_6.2.1 rfl (lv_at3 hl) ?_
            refine gf_X9_26 hC rfl hK hP 2 rfl rfl gX9_weigh_6.2.2.1 ?_
            refine lv_icmp_ne (tgt := 136) hx hb gX9_weigh_6.2.2.2.1 (by decide) (fun c_121_3471 => ?_) (fun c_121_3471 => ?_)
            · refine lv_aload_n hx hb gX9_weigh_6.2.2.2.2.2.2.2.2.2 rfl (lv_at3 hl) ?_
              refine lv_iload hx hb gX9_weigh_7.1 (lv_at0 hl) ?_
              refine pf_X9_26 hC rfl hK hP hD hS 2 (ws' := [(bsayings, oX8 16 8 bsayingsc (nI kbsayings)), (bsayingsc, iA G 128 fbsayings), (h0, oX9 bb sg tf13453 tt13454 (WGS (PWS fbsayings fbpapers td vd vl je jp) fbsayings ((fbsayings (kP * 8 + 3)) + 1) kbsayings) wb), (sg, oX7 bb clk fi la ml mm sl sm scl), (la, iA G 12 fla), (ml, iA G 12 fml), (mm, iA G 12 fmm), (sl, iA G 12 fsl), (sm, iA G 12 fsm), (bb, oX0 bpersons bpapers bstamps bversions blines bsteps bsayings bfindings bwarnings bquestions td vd vl gp), (bpapers, oX8 12 6 bpapersc (nI kbpapers)), (bpapersc, iA G 72 fbpapers), (bpersons, oX8 10 2 bpersonsc (nI kbpersons)), (bpersonsc, iA G 20 fbpersons)]) rfl (Nat.le_of_ble_eq_true rfl) rfl rfl rfl gX9_weigh_7.2.1 (fun H locs hP hD hS => ?_)
              refine lv_aload_n hx hb gX9_weigh_7.2.2.1 rfl (lv_at3 hl) ?_
              refine lv_iload hx hb gX9_weigh_7.2.2.2.1 (lv_at1 hl) ?_
              refine pf_X9_29 hC rfl hK hP hD hS 2 (ws' := [(bsayings, oX8 16 8 bsayingsc (nI kbsayings)), (bsayingsc, iA G 128 fbsayings), (h0, oX9 bb sg tf13453 tt13454 (WGS (PWS fbsayings fbpapers td vd vl je jp) fbsayings ((fbsayings (kP * 8 + 3)) + 1) kbsayings) ((fbsayings (kP * 8 + 3)) + 1)), (sg, oX7 bb clk fi la ml mm sl sm scl), (la, iA G 12 fla), (ml, iA G 12 fml), (mm, iA G 12 fmm), (sl, iA G 12 fsl), (sm, iA G 12 fsm), (bb, oX0 bpersons bpapers bstamps bversions blines bsteps bsayings bfindings bwarnings bquestions td vd vl gp), (bpapers, oX8 12 6 bpapersc (nI kbpapers)), (bpapersc, iA G 72 fbpapers), (bpersons, oX8 10 2 bpersonsc (nI kbpersons)), (bpersonsc, iA G 20 fbpersons)]) rfl (Nat.le_of_ble_eq_true rfl) rfl rfl rfl gX9_weigh_7.2.2.2.2.1 (fun H locs hP hD hS => ?_)
              refine lv_iinc (v := nI (kP + 1)) (lv' := [(4, .int (nI (kP + 1))), (6, .int (WGS (PWS fbsayings fbpapers td vd vl je jp) fbsayings ((fbsayings (kP * 8 + 3)) + 1) kbsayings)), (5, .int ((fbsayings (kP * 8 + 3)) + 1)), (0, .ref h0), (1, .int (nI je)), (2, .int (nI jp)), (3, .int (IVW fbpapers td vd vl kbpapers))]) hx hb gX9_weigh_7.2.2.2.2.2.1 hl (k := 2) rfl (nI_1 _) (by decide) rfl (fun ls hl => ?_)
              refine lv_goto (tgt := 32) hx hb gX9_weigh_7.2.2.2.2.2.2.1 (by decide) ?_
              have hst9 : LBT (fun h9 => WGS (PWS fbsayings fbpapers td vd vl je jp) fbsayings h9 kbsayings) (CAN (PWS fbsayings fbpapers td vd vl je jp) fbsayings tf13453 tt13454 (kP + 1)) ((fbsayings (kP * 8 + 3)) + 1) (WGS (PWS fbsayings fbpapers td vd vl je jp) fbsayings ((fbsayings (kP * 8 + 3)) + 1) kbsayings) := hlb.new rfl a3467 (Wi_le.mp a3465).1 (Wi_le.mp a3465).2 (Or.inl (i_le_ne (Int32.not_lt.mp c_112_3470) c_121_3471))
              exact ihP (kP + 1) (WGS (PWS fbsayings fbpapers td vd vl je jp) fbsayings ((fbsayings (kP * 8 + 3)) + 1) kbsayings) ((fbsayings (kP * 8 + 3)) + 1) _ _ _ (by omega) (by first | assumption | exact Or.inl rfl | exact Or.inr rfl | exact LBT.zero) (And.intro hP hD) hS (lv_sub hl [0, 3, 4, 5, 6] rfl)
            · refine lv_iload hx hb gX9_weigh_6.2.2.2.2.1 (lv_at1 hl) ?_
              refine lv_aload_n hx hb gX9_weigh_6.2.2.2.2.2.1 rfl (lv_at3 hl) ?_
              refine gf_X9_29 hC rfl hK hP 2 rfl rfl gX9_weigh_6.2.2.2.2.2.2.1 ?_
              refine lv_icmp_lt (tgt := 136) hx hb gX9_weigh_6.2.2.2.2.2.2.2.1 (by decide) (fun c_130_3472 => ?_) (fun c_130_3472 => ?_)
              · refine lv_aload_n hx hb gX9_weigh_6.2.2.2.2.2.2.2.2.2 rfl (lv_at3 hl) ?_
                refine lv_iload hx hb gX9_weigh_7.1 (lv_at0 hl) ?_
                refine pf_X9_26 hC rfl hK hP hD hS 2 (ws' := [(bsayings, oX8 16 8 bsayingsc (nI kbsayings)), (bsayingsc, iA G 128 fbsayings), (h0, oX9 bb sg tf13453 tt13454 (WGS (PWS fbsayings fbpapers td vd vl je jp) fbsayings ((fbsayings (kP * 8 + 3)) + 1) kbsayings) wb), (sg, oX7 bb clk fi la ml mm sl sm scl), (la, iA G 12 fla), (ml, iA G 12 fml), (mm, iA G 12 fmm), (sl, iA G 12 fsl), (sm, iA G 12 fsm), (bb, oX0 bpersons bpapers bstamps bversions blines bsteps bsayings bfindings bwarnings bquestions td vd vl gp), (bpapers, oX8 12 6 bpapersc (nI kbpapers)), (bpapersc, iA G 72 fbpapers), (bpersons, oX8 10 2 bpersonsc (nI kbpersons)), (bpersonsc, iA G 20 fbpersons)]) rfl (Nat.le_of_ble_eq_true rfl) rfl rfl rfl gX9_weigh_7.2.1 (fun H locs hP hD hS => ?_)
                refine lv_aload_n hx hb gX9_weigh_7.2.2.1 rfl (lv_at3 hl) ?_
                refine lv_iload hx hb gX9_weigh_7.2.2.2.1 (lv_at1 hl) ?_
                refine pf_X9_29 hC rfl hK hP hD hS 2 (ws' := [(bsayings, oX8 16 8 bsayingsc (nI kbsayings)), (bsayingsc, iA G 128 fbsayings), (h0, oX9 bb sg tf13453 tt13454 (WGS (PWS fbsayings fbpapers td vd vl je jp) fbsayings ((fbsayings (kP * 8 + 3)) + 1) kbsayings) ((fbsayings (kP * 8 + 3)) + 1)), (sg, oX7 bb clk fi la ml mm sl sm scl), (la, iA G 12 fla), (ml, iA G 12 fml), (mm, iA G 12 fmm), (sl, iA G 12 fsl), (sm, iA G 12 fsm), (bb, oX0 bpersons bpapers bstamps bversions blines bsteps bsayings bfindings bwarnings bquestions td vd vl gp), (bpapers, oX8 12 6 bpapersc (nI kbpapers)), (bpapersc, iA G 72 fbpapers), (bpersons, oX8 10 2 bpersonsc (nI kbpersons)), (bpersonsc, iA G 20 fbpersons)]) rfl (Nat.le_of_ble_eq_true rfl) rfl rfl rfl gX9_weigh_7.2.2.2.2.1 (fun H locs hP hD hS => ?_)
                refine lv_iinc (v := nI (kP + 1)) (lv' := [(4, .int (nI (kP + 1))), (6, .int (WGS (PWS fbsayings fbpapers td vd vl je jp) fbsayings ((fbsayings (kP * 8 + 3)) + 1) kbsayings)), (5, .int ((fbsayings (kP * 8 + 3)) + 1)), (0, .ref h0), (1, .int (nI je)), (2, .int (nI jp)), (3, .int (IVW fbpapers td vd vl kbpapers))]) hx hb gX9_weigh_7.2.2.2.2.2.1 hl (k := 2) rfl (nI_1 _) (by decide) rfl (fun ls hl => ?_)
                refine lv_goto (tgt := 32) hx hb gX9_weigh_7.2.2.2.2.2.2.1 (by decide) ?_
                have hst9 : LBT (fun h9 => WGS (PWS fbsayings fbpapers td vd vl je jp) fbsayings h9 kbsayings) (CAN (PWS fbsayings fbpapers td vd vl je jp) fbsayings tf13453 tt13454 (kP + 1)) ((fbsayings (kP * 8 + 3)) + 1) (WGS (PWS fbsayings fbpapers td vd vl je jp) fbsayings ((fbsayings (kP * 8 + 3)) + 1) kbsayings) := hlb.new rfl a3467 (Wi_le.mp a3465).1 (Wi_le.mp a3465).2 (Or.inr ⟨c_121_3471, c_130_3472⟩)
                exact ihP (kP + 1) (WGS (PWS fbsayings fbpapers td vd vl je jp) fbsayings ((fbsayings (kP * 8 + 3)) + 1) kbsayings) ((fbsayings (kP * 8 + 3)) + 1) _ _ _ (by omega) (by first | assumption | exact Or.inl rfl | exact Or.inr rfl | exact LBT.zero) (And.intro hP hD) hS (lv_sub hl [0, 3, 4, 5, 6] rfl)
              · refine lv_goto (tgt := 148) hx hb gX9_weigh_6.2.2.2.2.2.2.2.2.1 (by decide) ?_
                refine lv_iinc (v := nI (kP + 1)) (lv' := [(4, .int (nI (kP + 1))), (6, .int (WGS (PWS fbsayings fbpapers td vd vl je jp) fbsayings ((fbsayings (kP * 8 + 3)) + 1) kbsayings)), (5, .int ((fbsayings (kP * 8 + 3)) + 1)), (0, .ref h0), (1, .int (nI je)), (2, .int (nI jp)), (3, .int (IVW fbpapers td vd vl kbpapers))]) hx hb gX9_weigh_7.2.2.2.2.2.1 hl (k := 2) rfl (nI_1 _) (by decide) rfl (fun ls hl => ?_)
                refine lv_goto (tgt := 32) hx hb gX9_weigh_7.2.2.2.2.2.2.1 (by decide) ?_
                have hst9 : LBT (fun h9 => WGS (PWS fbsayings fbpapers td vd vl je jp) fbsayings h9 kbsayings) (CAN (PWS fbsayings fbpapers td vd vl je jp) fbsayings tf13453 tt13454 (kP + 1)) wb wl := hlb.late rfl c_121_3471 (Int32.not_lt.mp c_130_3472)
                exact ihP (kP + 1) wl wb _ _ _ (by omega) (by first | assumption | exact Or.inl rfl | exact Or.inr rfl | exact LBT.zero) (And.intro hP hD) hS (lv_sub hl [0, 3, 4, 5, 6] rfl)
        · refine lv_if_ne (tgt := 95) hx hb gX9_weigh_4.2.2.2.2.2.2.2.1 (by decide) (fun c9 => absurd (by decide) c9) (fun _ => ?_)
          refine lv_goto (tgt := 148) hx hb gX9_weigh_4.2.2.2.2.2.2.2.2.1 (by decide) ?_
          refine lv_iinc (v := nI (kP + 1)) (lv' := [(4, .int (nI (kP + 1))), (5, .int ((fbsayings (kP * 8 + 3)) + 1)), (0, .ref h0), (1, .int (nI je)), (2, .int (nI jp)), (3, .int (IVW fbpapers td vd vl kbpapers))]) hx hb gX9_weigh_7.2.2.2.2.2.1 hl (k := 1) rfl (nI_1 _) (by decide) rfl (fun ls hl => ?_)
          refine lv_goto (tgt := 32) hx hb gX9_weigh_7.2.2.2.2.2.2.1 (by decide) ?_
          have hst9 : LBT (fun h9 => WGS (PWS fbsayings fbpapers td vd vl je jp) fbsayings h9 kbsayings) (CAN (PWS fbsayings fbpapers td vd vl je jp) fbsayings tf13453 tt13454 (kP + 1)) wb wl := hlb.skip (fun h9 => a3467 h9.1)
          exact ihP (kP + 1) wl wb _ _ _ (by omega) (by first | assumption | exact Or.inl rfl | exact Or.inr rfl | exact LBT.zero) (And.intro hP hD) hS (lv_sub hl [0, 2, 3, 4, 5] rfl)
      · refine lv_if_eq (tgt := 148) hx hb gX9_weigh_4.1 (by decide) (fun _ => ?_) (fun c9 => absurd (by decide) c9)
        refine lv_iinc (v := nI (kP + 1)) (lv' := [(4, .int (nI (kP + 1))), (5, .int ((fbsayings (kP * 8 + 3)) + 1)), (0, .ref h0), (1, .int (nI je)), (2, .int (nI jp)), (3, .int (IVW fbpapers td vd vl kbpapers))]) hx hb gX9_weigh_7.2.2.2.2.2.1 hl (k := 1) rfl (nI_1 _) (by decide) rfl (fun ls hl => ?_)
        refine lv_goto (tgt := 32) hx hb gX9_weigh_7.2.2.2.2.2.2.1 (by decide) ?_
        have hst9 : LBT (fun h9 => WGS (PWS fbsayings fbpapers td vd vl je jp) fbsayings h9 kbsayings) (CAN (PWS fbsayings fbpapers td vd vl je jp) fbsayings tf13453 tt13454 (kP + 1)) wb wl := hlb.skip (fun h9 => a3465 (Wi_le.mpr h9.2))
        exact ihP (kP + 1) wl wb _ _ _ (by omega) (by first | assumption | exact Or.inl rfl | exact Or.inr rfl | exact LBT.zero) (And.intro hP hD) hS (lv_sub hl [0, 2, 3, 4, 5] rfl)
  exact keyP kbsayings 0 (WGS (PWS fbsayings fbpapers td vd vl je jp) fbsayings tf13453 kbsayings) tf13453 _ _ _ (by omega) (by first | assumption | exact Or.inl rfl | exact Or.inr rfl | exact LBT.zero) (And.intro hP hD) hS (lv_sub hl [0, 1, 2, 3, 4] rfl)
def K_c_leastWeightX (l : Launch) (G : GG) (h0 : Nat) (bb : Nat) (sg : Nat) (tf : Int32) (tt9 : Int32) (tl : Int32) (tbv : Int32) : Prop := MP l G yX9_leastWeight cX9_leastWeight 1 (some .int) 1 [.ref h0] [(h0, oX9 bb sg tf tt9 tl tbv)] (fun r : Int32 => r = tl)
set_option maxHeartbeats 4000000 in
set_option maxRecDepth 100000 in
theorem c_leastWeightX (l : Launch) (G : GG) (h0 : Nat) (bb : Nat) (sg : Nat) (tf : Int32) (tt9 : Int32) (tl : Int32) (tbv : Int32) : K_c_leastWeightX l G h0 bb sg tf tt9 tl tbv := by
  refine MP.start (by decide +kernel) (Nat.le_of_ble_eq_true rfl) ?_
  intro p e s m below meth c ls hC hK hP hD hl
  refine absQ (fun Q0 hQ0 => ?_)
  have hl : lv_has ls 1 [(0, .ref h0)] := hl
  refine Kan8 hC (fun hx hb hr hml hB hown hlocks hnm => ?_)
  refine lv_aload_n hx hb gX9_leastWeight_0.1 rfl (lv_at0 hl) ?_
  refine gf_X9_26 hC rfl hK hP 0 rfl rfl gX9_leastWeight_0.2.1 ?_
  refine toQ hQ0 ?_
  exact RP (v := tl) hC (rfl) rfl gX9_leastWeight_0.2.2
def K_c_believedX (l : Launch) (G : GG) (h0 : Nat) (bb : Nat) (sg : Nat) (tf : Int32) (tt9 : Int32) (tl : Int32) (tbv : Int32) : Prop := MP l G yX9_believedHour cX9_believedHour 1 (some .int) 1 [.ref h0] [(h0, oX9 bb sg tf tt9 tl tbv)] (fun r : Int32 => r = tbv)
set_option maxHeartbeats 4000000 in
set_option maxRecDepth 100000 in
theorem c_believedX (l : Launch) (G : GG) (h0 : Nat) (bb : Nat) (sg : Nat) (tf : Int32) (tt9 : Int32) (tl : Int32) (tbv : Int32) : K_c_believedX l G h0 bb sg tf tt9 tl tbv := by
  refine MP.start (by decide +kernel) (Nat.le_of_ble_eq_true rfl) ?_
  intro p e s m below meth c ls hC hK hP hD hl
  refine absQ (fun Q0 hQ0 => ?_)
  have hl : lv_has ls 1 [(0, .ref h0)] := hl
  refine Kan8 hC (fun hx hb hr hml hB hown hlocks hnm => ?_)
  refine lv_aload_n hx hb gX9_believedHour_0.1 rfl (lv_at0 hl) ?_
  refine gf_X9_29 hC rfl hK hP 0 rfl rfl gX9_believedHour_0.2.1 ?_
  refine toQ hQ0 ?_
  exact RP (v := tbv) hC (rfl) rfl gX9_believedHour_0.2.2
